theorem m_a77a0f23 : (.methodLink "StackHostLaw" 90 y_Law_feed : Cond) ∈ xt_tbl := xt_in (xt_t2 (List.mem_of_getElem? (i := 144) (by decide +kernel))) (by decide +kernel)
theorem m_4dc3b71a : (.static y_Law_feed : Cond) ∈ xt_tbl := xt_in (xt_t2 (List.mem_of_getElem? (i := 145) (by decide +kernel))) (by decide +kernel)
theorem m_6445b362 : (.initialized "StackHostLaw" : Cond) ∈ xt_tbl := xt_in (xt_t1 (List.mem_of_getElem? (i := 0) (by decide +kernel))) (by decide +kernel)
theorem m_c82c7dba : (.codeWith y_Law_feed b_Law_feed 8 (some .int) [(0, 16, 19, 13)] : Cond) ∈ xt_tbl := xt_in (xt_t2 (List.mem_of_getElem? (i := 146) (by decide +kernel))) (by decide +kernel)
theorem m_bafdb021 : (.methodLink "StackHostLaw" 95 y_M_feed : Cond) ∈ xt_tbl := xt_in (xt_t12 (List.mem_of_getElem? (i := 9) (by decide +kernel))) (by decide +kernel)
theorem m_8d07489a : (.instanceMethod y_M_feed : Cond) ∈ xt_tbl := xt_in (xt_t12 (List.mem_of_getElem? (i := 10) (by decide +kernel))) (by decide +kernel)
theorem m_3960b39a : (.selects "StackHostModel" y_M_feed y_M_feed : Cond) ∈ xt_tbl := xt_in (xt_t12 (List.mem_of_getElem? (i := 11) (by decide +kernel))) (by decide +kernel)
theorem m_cf44efd5 : (.code y_M_feed b_M_feed 8 (some .int) : Cond) ∈ xt_tbl := xt_in (xt_t12 (List.mem_of_getElem? (i := 12) (by decide +kernel))) (by decide +kernel)
theorem m_c0db9587 : (.methodLink "StackHostLaw" 96 y_Law_end : Cond) ∈ xt_tbl := xt_in (xt_t3 (List.mem_of_getElem? (i := 3) (by decide +kernel))) (by decide +kernel)
theorem m_7b391b8e : (.static y_Law_end : Cond) ∈ xt_tbl := xt_in (xt_t3 (List.mem_of_getElem? (i := 4) (by decide +kernel))) (by decide +kernel)
theorem m_af196c6f : (.codeWith y_Law_end b_Law_end 3 (some .int) [(0, 5, 8, 19)] : Cond) ∈ xt_tbl := xt_in (xt_t3 (List.mem_of_getElem? (i := 5) (by decide +kernel))) (by decide +kernel)
theorem m_8977c23f : (.methodLink "StackHostLaw" 99 y_M_end : Cond) ∈ xt_tbl := xt_in (xt_t12 (List.mem_of_getElem? (i := 13) (by decide +kernel))) (by decide +kernel)
theorem m_bbe3ba13 : (.instanceMethod y_M_end : Cond) ∈ xt_tbl := xt_in (xt_t12 (List.mem_of_getElem? (i := 14) (by decide +kernel))) (by decide +kernel)
theorem m_54523609 : (.selects "StackHostModel" y_M_end y_M_end : Cond) ∈ xt_tbl := xt_in (xt_t12 (List.mem_of_getElem? (i := 15) (by decide +kernel))) (by decide +kernel)
theorem m_81e9ec36 : (.code y_M_end b_M_end 2 none : Cond) ∈ xt_tbl := xt_in (xt_t12 (List.mem_of_getElem? (i := 16) (by decide +kernel))) (by decide +kernel)
theorem m_35cf5d36 : (.methodLink "StackHostLaw" 100 y_Law_load : Cond) ∈ xt_tbl := xt_in (xt_t3 (List.mem_of_getElem? (i := 27) (by decide +kernel))) (by decide +kernel)
theorem m_4dbb5827 : (.static y_Law_load : Cond) ∈ xt_tbl := xt_in (xt_t3 (List.mem_of_getElem? (i := 28) (by decide +kernel))) (by decide +kernel)
theorem m_681560db : (.codeWith y_Law_load b_Law_load 3 (some .int) [(0, 8, 11, 13)] : Cond) ∈ xt_tbl := xt_in (xt_t3 (List.mem_of_getElem? (i := 29) (by decide +kernel))) (by decide +kernel)
theorem m_5a8d4d5b : (.methodLink "StackHostLaw" 103 y_M_load : Cond) ∈ xt_tbl := xt_in (xt_t10 (List.mem_of_getElem? (i := 190) (by decide +kernel))) (by decide +kernel)
theorem m_4a74d1ef : (.instanceMethod y_M_load : Cond) ∈ xt_tbl := xt_in (xt_t10 (List.mem_of_getElem? (i := 191) (by decide +kernel))) (by decide +kernel)
theorem m_3ee01492 : (.selects "StackHostModel" y_M_load y_M_load : Cond) ∈ xt_tbl := xt_in (xt_t10 (List.mem_of_getElem? (i := 192) (by decide +kernel))) (by decide +kernel)
theorem m_ac53e310 : (.code y_M_load b_M_load 5 (some .int) : Cond) ∈ xt_tbl := xt_in (xt_t10 (List.mem_of_getElem? (i := 193) (by decide +kernel))) (by decide +kernel)
theorem m_70fb1282 : (.methodLink "StackHostLaw" 104 y_Law_fault : Cond) ∈ xt_tbl := xt_in (xt_t6 (List.mem_of_getElem? (i := 56) (by decide +kernel))) (by decide +kernel)
theorem m_2a1b593e : (.static y_Law_fault : Cond) ∈ xt_tbl := xt_in (xt_t6 (List.mem_of_getElem? (i := 57) (by decide +kernel))) (by decide +kernel)
theorem m_b9ddf195 : (.codeWith y_Law_fault b_Law_fault 4 (some .int) [(0, 9, 12, 29)] : Cond) ∈ xt_tbl := xt_in (xt_t6 (List.mem_of_getElem? (i := 58) (by decide +kernel))) (by decide +kernel)
theorem m_94c16fde : (.methodLink "StackHostLaw" 107 y_M_fault : Cond) ∈ xt_tbl := xt_in (xt_t12 (List.mem_of_getElem? (i := 5) (by decide +kernel))) (by decide +kernel)
theorem m_5ef48346 : (.instanceMethod y_M_fault : Cond) ∈ xt_tbl := xt_in (xt_t12 (List.mem_of_getElem? (i := 6) (by decide +kernel))) (by decide +kernel)
theorem m_0f8af277 : (.selects "StackHostModel" y_M_fault y_M_fault : Cond) ∈ xt_tbl := xt_in (xt_t12 (List.mem_of_getElem? (i := 7) (by decide +kernel))) (by decide +kernel)
theorem m_3417788a : (.code y_M_fault b_M_fault 2 (some .int) : Cond) ∈ xt_tbl := xt_in (xt_t12 (List.mem_of_getElem? (i := 8) (by decide +kernel))) (by decide +kernel)
theorem m_ed25bd5f : (.methodLink "StackHostLaw" 108 y_Law_module : Cond) ∈ xt_tbl := xt_in (xt_t6 (List.mem_of_getElem? (i := 77) (by decide +kernel))) (by decide +kernel)
theorem m_ed220d35 : (.static y_Law_module : Cond) ∈ xt_tbl := xt_in (xt_t6 (List.mem_of_getElem? (i := 78) (by decide +kernel))) (by decide +kernel)
theorem m_8b6a1906 : (.codeWith y_Law_module b_Law_module 5 (some .int) [(0, 10, 13, 29)] : Cond) ∈ xt_tbl := xt_in (xt_t6 (List.mem_of_getElem? (i := 79) (by decide +kernel))) (by decide +kernel)
theorem m_b8ee8cb4 : (.methodLink "StackHostLaw" 111 y_M_module : Cond) ∈ xt_tbl := xt_in (xt_t11 (List.mem_of_getElem? (i := 233) (by decide +kernel))) (by decide +kernel)
theorem m_9b45ccfe : (.instanceMethod y_M_module : Cond) ∈ xt_tbl := xt_in (xt_t11 (List.mem_of_getElem? (i := 234) (by decide +kernel))) (by decide +kernel)
theorem m_28cdfd27 : (.selects "StackHostModel" y_M_module y_M_module : Cond) ∈ xt_tbl := xt_in (xt_t11 (List.mem_of_getElem? (i := 235) (by decide +kernel))) (by decide +kernel)
theorem m_4727a86b : (.code y_M_module b_M_module 3 (some .int) : Cond) ∈ xt_tbl := xt_in (xt_t11 (List.mem_of_getElem? (i := 236) (by decide +kernel))) (by decide +kernel)
theorem m_51387e96 : (.methodLink "StackHostLaw" 112 y_Law_room : Cond) ∈ xt_tbl := xt_in (xt_t6 (List.mem_of_getElem? (i := 91) (by decide +kernel))) (by decide +kernel)
theorem m_4fdd4d2e : (.static y_Law_room : Cond) ∈ xt_tbl := xt_in (xt_t6 (List.mem_of_getElem? (i := 92) (by decide +kernel))) (by decide +kernel)
theorem m_21e6add5 : (.codeWith y_Law_room b_Law_room 5 (some .int) [(0, 10, 13, 29)] : Cond) ∈ xt_tbl := xt_in (xt_t6 (List.mem_of_getElem? (i := 93) (by decide +kernel))) (by decide +kernel)
theorem m_385986d4 : (.methodLink "StackHostLaw" 114 y_M_room : Cond) ∈ xt_tbl := xt_in (xt_t12 (List.mem_of_getElem? (i := 1) (by decide +kernel))) (by decide +kernel)
theorem m_de1fd268 : (.instanceMethod y_M_room : Cond) ∈ xt_tbl := xt_in (xt_t12 (List.mem_of_getElem? (i := 2) (by decide +kernel))) (by decide +kernel)
theorem m_6999cd16 : (.selects "StackHostModel" y_M_room y_M_room : Cond) ∈ xt_tbl := xt_in (xt_t12 (List.mem_of_getElem? (i := 3) (by decide +kernel))) (by decide +kernel)
theorem m_5826b26c : (.code y_M_room b_M_room 3 (some .int) : Cond) ∈ xt_tbl := xt_in (xt_t12 (List.mem_of_getElem? (i := 4) (by decide +kernel))) (by decide +kernel)
theorem m_68315cf4 : (.methodLink "StackHostLaw" 115 y_Law_instantiate : Cond) ∈ xt_tbl := xt_in (xt_t6 (List.mem_of_getElem? (i := 100) (by decide +kernel))) (by decide +kernel)
theorem m_ca4e0918 : (.static y_Law_instantiate : Cond) ∈ xt_tbl := xt_in (xt_t6 (List.mem_of_getElem? (i := 101) (by decide +kernel))) (by decide +kernel)
theorem m_2e473db3 : (.codeWith y_Law_instantiate b_Law_instantiate 4 (some .int) [(0, 9, 12, 29), (0, 9, 15, 13)] : Cond) ∈ xt_tbl := xt_in (xt_t6 (List.mem_of_getElem? (i := 102) (by decide +kernel))) (by decide +kernel)
theorem m_489f947d : (.methodLink "StackHostLaw" 117 y_M_instantiate : Cond) ∈ xt_tbl := xt_in (xt_t12 (List.mem_of_getElem? (i := 17) (by decide +kernel))) (by decide +kernel)
theorem m_9c192fc6 : (.instanceMethod y_M_instantiate : Cond) ∈ xt_tbl := xt_in (xt_t12 (List.mem_of_getElem? (i := 18) (by decide +kernel))) (by decide +kernel)
theorem m_4464a7c4 : (.selects "StackHostModel" y_M_instantiate y_M_instantiate : Cond) ∈ xt_tbl := xt_in (xt_t12 (List.mem_of_getElem? (i := 19) (by decide +kernel))) (by decide +kernel)
theorem m_7f8a5ab1 : (.code y_M_instantiate b_M_instantiate 14 (some .int) : Cond) ∈ xt_tbl := xt_in (xt_t12 (List.mem_of_getElem? (i := 20) (by decide +kernel))) (by decide +kernel)
theorem m_5d8f3d12 : (.methodLink "StackHostLaw" 118 y_Law_name : Cond) ∈ xt_tbl := xt_in (xt_t7 (List.mem_of_getElem? (i := 120) (by decide +kernel))) (by decide +kernel)
theorem m_95e9795d : (.static y_Law_name : Cond) ∈ xt_tbl := xt_in (xt_t7 (List.mem_of_getElem? (i := 121) (by decide +kernel))) (by decide +kernel)
theorem m_25ac2c1f : (.codeWith y_Law_name b_Law_name 3 (some .int) [(0, 5, 8, 29)] : Cond) ∈ xt_tbl := xt_in (xt_t7 (List.mem_of_getElem? (i := 122) (by decide +kernel))) (by decide +kernel)
theorem m_c2d2d414 : (.methodLink "StackHostLaw" 120 y_M_name1 : Cond) ∈ xt_tbl := xt_in (xt_t12 (List.mem_of_getElem? (i := 113) (by decide +kernel))) (by decide +kernel)
theorem m_ceb59520 : (.instanceMethod y_M_name1 : Cond) ∈ xt_tbl := xt_in (xt_t12 (List.mem_of_getElem? (i := 114) (by decide +kernel))) (by decide +kernel)
theorem m_66c1bb6d : (.selects "StackHostModel" y_M_name1 y_M_name1 : Cond) ∈ xt_tbl := xt_in (xt_t12 (List.mem_of_getElem? (i := 115) (by decide +kernel))) (by decide +kernel)
theorem m_b957af9e : (.code y_M_name1 b_M_name1 2 none : Cond) ∈ xt_tbl := xt_in (xt_t12 (List.mem_of_getElem? (i := 116) (by decide +kernel))) (by decide +kernel)
theorem m_c1ab5984 : (.methodLink "StackHostLaw" 121 y_Law_find : Cond) ∈ xt_tbl := xt_in (xt_t7 (List.mem_of_getElem? (i := 138) (by decide +kernel))) (by decide +kernel)
theorem m_8fcc0bf2 : (.static y_Law_find : Cond) ∈ xt_tbl := xt_in (xt_t7 (List.mem_of_getElem? (i := 139) (by decide +kernel))) (by decide +kernel)
theorem m_e6af087c : (.codeWith y_Law_find b_Law_find 4 (some .int) [(0, 9, 12, 29)] : Cond) ∈ xt_tbl := xt_in (xt_t7 (List.mem_of_getElem? (i := 140) (by decide +kernel))) (by decide +kernel)
theorem m_4477548c : (.methodLink "StackHostLaw" 123 y_M_find : Cond) ∈ xt_tbl := xt_in (xt_t12 (List.mem_of_getElem? (i := 121) (by decide +kernel))) (by decide +kernel)
theorem m_033ea03f : (.instanceMethod y_M_find : Cond) ∈ xt_tbl := xt_in (xt_t12 (List.mem_of_getElem? (i := 122) (by decide +kernel))) (by decide +kernel)
theorem m_204d37c5 : (.selects "StackHostModel" y_M_find y_M_find : Cond) ∈ xt_tbl := xt_in (xt_t12 (List.mem_of_getElem? (i := 123) (by decide +kernel))) (by decide +kernel)
theorem m_36d1dd5e : (.code y_M_find b_M_find 4 (some .int) : Cond) ∈ xt_tbl := xt_in (xt_t12 (List.mem_of_getElem? (i := 124) (by decide +kernel))) (by decide +kernel)
theorem m_70297649 : (.methodLink "StackHostLaw" 124 y_Law_exported : Cond) ∈ xt_tbl := xt_in (xt_t7 (List.mem_of_getElem? (i := 146) (by decide +kernel))) (by decide +kernel)
theorem m_a4d922a3 : (.static y_Law_exported : Cond) ∈ xt_tbl := xt_in (xt_t7 (List.mem_of_getElem? (i := 147) (by decide +kernel))) (by decide +kernel)
theorem m_29cb7ca8 : (.codeWith y_Law_exported b_Law_exported 6 (some .int) [(0, 12, 15, 29)] : Cond) ∈ xt_tbl := xt_in (xt_t7 (List.mem_of_getElem? (i := 148) (by decide +kernel))) (by decide +kernel)
theorem m_27b30da5 : (.methodLink "StackHostLaw" 127 y_M_exported : Cond) ∈ xt_tbl := xt_in (xt_t12 (List.mem_of_getElem? (i := 125) (by decide +kernel))) (by decide +kernel)
theorem m_d9b6b786 : (.instanceMethod y_M_exported : Cond) ∈ xt_tbl := xt_in (xt_t12 (List.mem_of_getElem? (i := 126) (by decide +kernel))) (by decide +kernel)
theorem m_68b1a8cd : (.selects "StackHostModel" y_M_exported y_M_exported : Cond) ∈ xt_tbl := xt_in (xt_t12 (List.mem_of_getElem? (i := 127) (by decide +kernel))) (by decide +kernel)
theorem m_e845ad78 : (.code y_M_exported b_M_exported 8 (some .int) : Cond) ∈ xt_tbl := xt_in (xt_t12 (List.mem_of_getElem? (i := 128) (by decide +kernel))) (by decide +kernel)
theorem m_37a14b9c : (.constantLong "StackHostLaw" 128 4294967295 : Cond) ∈ xt_tbl := xt_in (xt_t13 (List.mem_of_getElem? (i := 215) (by decide +kernel))) (by decide +kernel)
theorem m_f369066f : (.methodLink "StackHostLaw" 130 y_Law_push : Cond) ∈ xt_tbl := xt_in (xt_t7 (List.mem_of_getElem? (i := 162) (by decide +kernel))) (by decide +kernel)
theorem m_405e2d6b : (.static y_Law_push : Cond) ∈ xt_tbl := xt_in (xt_t7 (List.mem_of_getElem? (i := 163) (by decide +kernel))) (by decide +kernel)
theorem m_80f64de9 : (.codeWith y_Law_push b_Law_push 5 (some .int) [(0, 9, 12, 13)] : Cond) ∈ xt_tbl := xt_in (xt_t7 (List.mem_of_getElem? (i := 164) (by decide +kernel))) (by decide +kernel)
theorem m_f8abb4c8 : (.methodLink "StackHostLaw" 133 y_M_push : Cond) ∈ xt_tbl := xt_in (xt_t12 (List.mem_of_getElem? (i := 141) (by decide +kernel))) (by decide +kernel)
theorem m_e2ffa201 : (.instanceMethod y_M_push : Cond) ∈ xt_tbl := xt_in (xt_t12 (List.mem_of_getElem? (i := 142) (by decide +kernel))) (by decide +kernel)
theorem m_41a99f61 : (.selects "StackHostModel" y_M_push y_M_push : Cond) ∈ xt_tbl := xt_in (xt_t12 (List.mem_of_getElem? (i := 143) (by decide +kernel))) (by decide +kernel)
theorem m_ebcc62d2 : (.code y_M_push b_M_push 3 (some .int) : Cond) ∈ xt_tbl := xt_in (xt_t12 (List.mem_of_getElem? (i := 144) (by decide +kernel))) (by decide +kernel)
theorem m_7ff4281b : (.methodLink "StackHostLaw" 134 y_Law_invoke : Cond) ∈ xt_tbl := xt_in (xt_t7 (List.mem_of_getElem? (i := 171) (by decide +kernel))) (by decide +kernel)
theorem m_e3f01959 : (.static y_Law_invoke : Cond) ∈ xt_tbl := xt_in (xt_t7 (List.mem_of_getElem? (i := 172) (by decide +kernel))) (by decide +kernel)
theorem m_a5134c6d : (.codeWith y_Law_invoke b_Law_invoke 4 (some .int) [(0, 6, 9, 29), (0, 6, 12, 19), (0, 6, 15, 13)] : Cond) ∈ xt_tbl := xt_in (xt_t7 (List.mem_of_getElem? (i := 173) (by decide +kernel))) (by decide +kernel)
theorem m_52dc5271 : (.methodLink "StackHostLaw" 137 y_M_invoke : Cond) ∈ xt_tbl := xt_in (xt_t12 (List.mem_of_getElem? (i := 145) (by decide +kernel))) (by decide +kernel)
theorem m_acb842fe : (.instanceMethod y_M_invoke : Cond) ∈ xt_tbl := xt_in (xt_t12 (List.mem_of_getElem? (i := 146) (by decide +kernel))) (by decide +kernel)
theorem m_8f9d9e95 : (.selects "StackHostModel" y_M_invoke y_M_invoke : Cond) ∈ xt_tbl := xt_in (xt_t12 (List.mem_of_getElem? (i := 147) (by decide +kernel))) (by decide +kernel)
theorem m_da9af6b0 : (.code y_M_invoke b_M_invoke 7 none : Cond) ∈ xt_tbl := xt_in (xt_t12 (List.mem_of_getElem? (i := 148) (by decide +kernel))) (by decide +kernel)
theorem m_bee71a0c : (.methodLink "StackHostLaw" 138 y_Law_run : Cond) ∈ xt_tbl := xt_in (xt_t7 (List.mem_of_getElem? (i := 193) (by decide +kernel))) (by decide +kernel)
theorem m_5d8bd3a7 : (.static y_Law_run : Cond) ∈ xt_tbl := xt_in (xt_t7 (List.mem_of_getElem? (i := 194) (by decide +kernel))) (by decide +kernel)
theorem m_3ea92327 : (.codeWith y_Law_run b_Law_run 4 (some .int) [(0, 9, 12, 19), (0, 9, 15, 13)] : Cond) ∈ xt_tbl := xt_in (xt_t7 (List.mem_of_getElem? (i := 195) (by decide +kernel))) (by decide +kernel)
theorem m_c3209139 : (.methodLink "StackHostLaw" 140 y_M_run : Cond) ∈ xt_tbl := xt_in (xt_t12 (List.mem_of_getElem? (i := 149) (by decide +kernel))) (by decide +kernel)
theorem m_7da41847 : (.instanceMethod y_M_run : Cond) ∈ xt_tbl := xt_in (xt_t12 (List.mem_of_getElem? (i := 150) (by decide +kernel))) (by decide +kernel)
theorem m_15a64045 : (.selects "StackHostModel" y_M_run y_M_run : Cond) ∈ xt_tbl := xt_in (xt_t12 (List.mem_of_getElem? (i := 151) (by decide +kernel))) (by decide +kernel)
theorem m_5741cf7c : (.code y_M_run b_M_run 6 (some .int) : Cond) ∈ xt_tbl := xt_in (xt_t12 (List.mem_of_getElem? (i := 152) (by decide +kernel))) (by decide +kernel)
theorem m_12774087 : (.methodLink "StackHostLaw" 141 y_H_stop : Cond) ∈ xt_tbl := xt_in (xt_t2 (List.mem_of_getElem? (i := 116) (by decide +kernel))) (by decide +kernel)
theorem m_b95c9c7f : (.instanceMethod y_H_stop : Cond) ∈ xt_tbl := xt_in (xt_t2 (List.mem_of_getElem? (i := 117) (by decide +kernel))) (by decide +kernel)
theorem m_fbc9d42c : (.selects "StackHost" y_H_stop y_H_stop : Cond) ∈ xt_tbl := xt_in (xt_t2 (List.mem_of_getElem? (i := 118) (by decide +kernel))) (by decide +kernel)
theorem m_d6deab78 : (.code y_H_stop b_H_stop 1 (some .int) : Cond) ∈ xt_tbl := xt_in (xt_t2 (List.mem_of_getElem? (i := 119) (by decide +kernel))) (by decide +kernel)
theorem m_abcbb5e9 : (.methodLink "StackHostLaw" 144 y_M_stop : Cond) ∈ xt_tbl := xt_in (xt_t13 (List.mem_of_getElem? (i := 158) (by decide +kernel))) (by decide +kernel)
theorem m_136699e8 : (.instanceMethod y_M_stop : Cond) ∈ xt_tbl := xt_in (xt_t13 (List.mem_of_getElem? (i := 159) (by decide +kernel))) (by decide +kernel)
theorem m_733b14e3 : (.selects "StackHostModel" y_M_stop y_M_stop : Cond) ∈ xt_tbl := xt_in (xt_t13 (List.mem_of_getElem? (i := 160) (by decide +kernel))) (by decide +kernel)
theorem m_545720a2 : (.code y_M_stop b_M_stop 2 (some .int) : Cond) ∈ xt_tbl := xt_in (xt_t13 (List.mem_of_getElem? (i := 161) (by decide +kernel))) (by decide +kernel)
theorem m_d844aec6 : (.methodLink "StackHostLaw" 145 y_H_calls : Cond) ∈ xt_tbl := xt_in (xt_t2 (List.mem_of_getElem? (i := 124) (by decide +kernel))) (by decide +kernel)
theorem m_284c1805 : (.instanceMethod y_H_calls : Cond) ∈ xt_tbl := xt_in (xt_t2 (List.mem_of_getElem? (i := 125) (by decide +kernel))) (by decide +kernel)
theorem m_a8d3f30a : (.selects "StackHost" y_H_calls y_H_calls : Cond) ∈ xt_tbl := xt_in (xt_t2 (List.mem_of_getElem? (i := 126) (by decide +kernel))) (by decide +kernel)
theorem m_46c065db : (.code y_H_calls b_H_calls 1 (some .int) : Cond) ∈ xt_tbl := xt_in (xt_t2 (List.mem_of_getElem? (i := 127) (by decide +kernel))) (by decide +kernel)
theorem m_4df48920 : (.methodLink "StackHostLaw" 148 y_M_calls : Cond) ∈ xt_tbl := xt_in (xt_t13 (List.mem_of_getElem? (i := 162) (by decide +kernel))) (by decide +kernel)
theorem m_c0729cda : (.instanceMethod y_M_calls : Cond) ∈ xt_tbl := xt_in (xt_t13 (List.mem_of_getElem? (i := 163) (by decide +kernel))) (by decide +kernel)
theorem m_3840d3a2 : (.selects "StackHostModel" y_M_calls y_M_calls : Cond) ∈ xt_tbl := xt_in (xt_t13 (List.mem_of_getElem? (i := 164) (by decide +kernel))) (by decide +kernel)
theorem m_2518159a : (.code y_M_calls b_M_calls 1 (some .int) : Cond) ∈ xt_tbl := xt_in (xt_t13 (List.mem_of_getElem? (i := 165) (by decide +kernel))) (by decide +kernel)
theorem m_08633262 : (.methodLink "StackHostLaw" 149 y_H_result : Cond) ∈ xt_tbl := xt_in (xt_t2 (List.mem_of_getElem? (i := 128) (by decide +kernel))) (by decide +kernel)
theorem m_6f7c43e3 : (.instanceMethod y_H_result : Cond) ∈ xt_tbl := xt_in (xt_t2 (List.mem_of_getElem? (i := 129) (by decide +kernel))) (by decide +kernel)
theorem m_6a5f97b4 : (.selects "StackHost" y_H_result y_H_result : Cond) ∈ xt_tbl := xt_in (xt_t2 (List.mem_of_getElem? (i := 130) (by decide +kernel))) (by decide +kernel)
theorem m_ee8450e5 : (.code y_H_result b_H_result 1 (some .long) : Cond) ∈ xt_tbl := xt_in (xt_t2 (List.mem_of_getElem? (i := 131) (by decide +kernel))) (by decide +kernel)
theorem m_613ccdf4 : (.methodLink "StackHostLaw" 153 y_M_result : Cond) ∈ xt_tbl := xt_in (xt_t13 (List.mem_of_getElem? (i := 166) (by decide +kernel))) (by decide +kernel)
theorem m_a6fe7e52 : (.instanceMethod y_M_result : Cond) ∈ xt_tbl := xt_in (xt_t13 (List.mem_of_getElem? (i := 167) (by decide +kernel))) (by decide +kernel)
theorem m_429e009f : (.selects "StackHostModel" y_M_result y_M_result : Cond) ∈ xt_tbl := xt_in (xt_t13 (List.mem_of_getElem? (i := 168) (by decide +kernel))) (by decide +kernel)
theorem m_45e6955b : (.code y_M_result b_M_result 1 (some .long) : Cond) ∈ xt_tbl := xt_in (xt_t13 (List.mem_of_getElem? (i := 169) (by decide +kernel))) (by decide +kernel)
theorem m_896b3be2 : (.methodLink "StackHostLaw" 154 y_Law_trap : Cond) ∈ xt_tbl := xt_in (xt_t9 (List.mem_of_getElem? (i := 23) (by decide +kernel))) (by decide +kernel)
theorem m_3ae348b9 : (.static y_Law_trap : Cond) ∈ xt_tbl := xt_in (xt_t9 (List.mem_of_getElem? (i := 24) (by decide +kernel))) (by decide +kernel)
theorem m_c46c6eff : (.codeWith y_Law_trap b_Law_trap 4 (some .int) [(0, 9, 12, 29)] : Cond) ∈ xt_tbl := xt_in (xt_t9 (List.mem_of_getElem? (i := 25) (by decide +kernel))) (by decide +kernel)
theorem m_7adad09a : (.methodLink "StackHostLaw" 156 y_M_trap : Cond) ∈ xt_tbl := xt_in (xt_t13 (List.mem_of_getElem? (i := 170) (by decide +kernel))) (by decide +kernel)
theorem m_f4d30eb7 : (.instanceMethod y_M_trap : Cond) ∈ xt_tbl := xt_in (xt_t13 (List.mem_of_getElem? (i := 171) (by decide +kernel))) (by decide +kernel)
theorem m_684d6285 : (.selects "StackHostModel" y_M_trap y_M_trap : Cond) ∈ xt_tbl := xt_in (xt_t13 (List.mem_of_getElem? (i := 172) (by decide +kernel))) (by decide +kernel)
theorem m_4b26901a : (.code y_M_trap b_M_trap 2 (some .int) : Cond) ∈ xt_tbl := xt_in (xt_t13 (List.mem_of_getElem? (i := 173) (by decide +kernel))) (by decide +kernel)
theorem m_8b636c54 : (.methodLink "StackHostLaw" 157 y_Law_pages : Cond) ∈ xt_tbl := xt_in (xt_t9 (List.mem_of_getElem? (i := 31) (by decide +kernel))) (by decide +kernel)
theorem m_036c732f : (.static y_Law_pages : Cond) ∈ xt_tbl := xt_in (xt_t9 (List.mem_of_getElem? (i := 32) (by decide +kernel))) (by decide +kernel)
theorem m_d751318f : (.codeWith y_Law_pages b_Law_pages 4 (some .int) [(0, 9, 12, 29)] : Cond) ∈ xt_tbl := xt_in (xt_t9 (List.mem_of_getElem? (i := 33) (by decide +kernel))) (by decide +kernel)
theorem m_8afe5f1d : (.methodLink "StackHostLaw" 159 y_M_pages : Cond) ∈ xt_tbl := xt_in (xt_t13 (List.mem_of_getElem? (i := 178) (by decide +kernel))) (by decide +kernel)
theorem m_7ca87fc2 : (.instanceMethod y_M_pages : Cond) ∈ xt_tbl := xt_in (xt_t13 (List.mem_of_getElem? (i := 179) (by decide +kernel))) (by decide +kernel)
theorem m_91e3eddb : (.selects "StackHostModel" y_M_pages y_M_pages : Cond) ∈ xt_tbl := xt_in (xt_t13 (List.mem_of_getElem? (i := 180) (by decide +kernel))) (by decide +kernel)
theorem m_7d1491ad : (.code y_M_pages b_M_pages 3 (some .int) : Cond) ∈ xt_tbl := xt_in (xt_t13 (List.mem_of_getElem? (i := 181) (by decide +kernel))) (by decide +kernel)
theorem m_6e20cb42 : (.methodLink "StackHostLaw" 160 y_Law_peek : Cond) ∈ xt_tbl := xt_in (xt_t9 (List.mem_of_getElem? (i := 38) (by decide +kernel))) (by decide +kernel)
theorem m_443dad31 : (.static y_Law_peek : Cond) ∈ xt_tbl := xt_in (xt_t9 (List.mem_of_getElem? (i := 39) (by decide +kernel))) (by decide +kernel)
theorem m_01ffaec7 : (.codeWith y_Law_peek b_Law_peek 5 (some .int) [(0, 10, 13, 29)] : Cond) ∈ xt_tbl := xt_in (xt_t9 (List.mem_of_getElem? (i := 40) (by decide +kernel))) (by decide +kernel)
theorem m_850e22fe : (.methodLink "StackHostLaw" 162 y_M_peek : Cond) ∈ xt_tbl := xt_in (xt_t13 (List.mem_of_getElem? (i := 182) (by decide +kernel))) (by decide +kernel)
theorem m_7518de03 : (.instanceMethod y_M_peek : Cond) ∈ xt_tbl := xt_in (xt_t13 (List.mem_of_getElem? (i := 183) (by decide +kernel))) (by decide +kernel)
theorem m_c1a54879 : (.selects "StackHostModel" y_M_peek y_M_peek : Cond) ∈ xt_tbl := xt_in (xt_t13 (List.mem_of_getElem? (i := 184) (by decide +kernel))) (by decide +kernel)
theorem m_bbd82706 : (.code y_M_peek b_M_peek 3 (some .int) : Cond) ∈ xt_tbl := xt_in (xt_t13 (List.mem_of_getElem? (i := 185) (by decide +kernel))) (by decide +kernel)
theorem m_8c12a8b3 : (.methodLink "StackHostLaw" 163 y_Law_poke : Cond) ∈ xt_tbl := xt_in (xt_t9 (List.mem_of_getElem? (i := 52) (by decide +kernel))) (by decide +kernel)
theorem m_d97d1e9a : (.static y_Law_poke : Cond) ∈ xt_tbl := xt_in (xt_t9 (List.mem_of_getElem? (i := 53) (by decide +kernel))) (by decide +kernel)
theorem m_89f22d82 : (.codeWith y_Law_poke b_Law_poke 5 (some .int) [(0, 7, 10, 29)] : Cond) ∈ xt_tbl := xt_in (xt_t9 (List.mem_of_getElem? (i := 54) (by decide +kernel))) (by decide +kernel)
theorem m_beb057d7 : (.methodLink "StackHostLaw" 166 y_M_poke : Cond) ∈ xt_tbl := xt_in (xt_t13 (List.mem_of_getElem? (i := 190) (by decide +kernel))) (by decide +kernel)
theorem m_e7c94f39 : (.instanceMethod y_M_poke : Cond) ∈ xt_tbl := xt_in (xt_t13 (List.mem_of_getElem? (i := 191) (by decide +kernel))) (by decide +kernel)
theorem m_b52df5e7 : (.selects "StackHostModel" y_M_poke y_M_poke : Cond) ∈ xt_tbl := xt_in (xt_t13 (List.mem_of_getElem? (i := 192) (by decide +kernel))) (by decide +kernel)
theorem m_6c937a06 : (.code y_M_poke b_M_poke 4 none : Cond) ∈ xt_tbl := xt_in (xt_t13 (List.mem_of_getElem? (i := 193) (by decide +kernel))) (by decide +kernel)
theorem m_44a73821 : (.methodLink "StackHostLaw" 167 y_Law_variable : Cond) ∈ xt_tbl := xt_in (xt_t9 (List.mem_of_getElem? (i := 60) (by decide +kernel))) (by decide +kernel)
theorem m_29d2e7ef : (.static y_Law_variable : Cond) ∈ xt_tbl := xt_in (xt_t9 (List.mem_of_getElem? (i := 61) (by decide +kernel))) (by decide +kernel)
theorem m_b0ca8295 : (.codeWith y_Law_variable b_Law_variable 5 (some .int) [(0, 9, 12, 29)] : Cond) ∈ xt_tbl := xt_in (xt_t9 (List.mem_of_getElem? (i := 62) (by decide +kernel))) (by decide +kernel)
theorem m_626ec105 : (.methodLink "StackHostLaw" 169 y_M_variable : Cond) ∈ xt_tbl := xt_in (xt_t13 (List.mem_of_getElem? (i := 194) (by decide +kernel))) (by decide +kernel)
theorem m_f3c40a50 : (.instanceMethod y_M_variable : Cond) ∈ xt_tbl := xt_in (xt_t13 (List.mem_of_getElem? (i := 195) (by decide +kernel))) (by decide +kernel)
theorem m_aa28356f : (.selects "StackHostModel" y_M_variable y_M_variable : Cond) ∈ xt_tbl := xt_in (xt_t13 (List.mem_of_getElem? (i := 196) (by decide +kernel))) (by decide +kernel)
theorem m_476d6619 : (.code y_M_variable b_M_variable 3 (some .long) : Cond) ∈ xt_tbl := xt_in (xt_t13 (List.mem_of_getElem? (i := 197) (by decide +kernel))) (by decide +kernel)
theorem m_10dd7f11 : (.methodLink "StackHostLaw" 170 y_Law_element : Cond) ∈ xt_tbl := xt_in (xt_t9 (List.mem_of_getElem? (i := 69) (by decide +kernel))) (by decide +kernel)
theorem m_b2c75aa2 : (.static y_Law_element : Cond) ∈ xt_tbl := xt_in (xt_t9 (List.mem_of_getElem? (i := 70) (by decide +kernel))) (by decide +kernel)
theorem m_28067eb6 : (.codeWith y_Law_element b_Law_element 5 (some .int) [(0, 10, 13, 29)] : Cond) ∈ xt_tbl := xt_in (xt_t9 (List.mem_of_getElem? (i := 71) (by decide +kernel))) (by decide +kernel)
theorem m_d4a32f5a : (.methodLink "StackHostLaw" 172 y_M_element : Cond) ∈ xt_tbl := xt_in (xt_t13 (List.mem_of_getElem? (i := 198) (by decide +kernel))) (by decide +kernel)
theorem m_d10d7564 : (.instanceMethod y_M_element : Cond) ∈ xt_tbl := xt_in (xt_t13 (List.mem_of_getElem? (i := 199) (by decide +kernel))) (by decide +kernel)
theorem m_03e7aa3d : (.selects "StackHostModel" y_M_element y_M_element : Cond) ∈ xt_tbl := xt_in (xt_t13 (List.mem_of_getElem? (i := 200) (by decide +kernel))) (by decide +kernel)
theorem m_bf8b0a28 : (.code y_M_element b_M_element 5 (some .int) : Cond) ∈ xt_tbl := xt_in (xt_t13 (List.mem_of_getElem? (i := 201) (by decide +kernel))) (by decide +kernel)
theorem m_8689c3c3 : (.methodLink "StackHostLaw" 173 y_H_wrong : Cond) ∈ xt_tbl := xt_in (xt_t2 (List.mem_of_getElem? (i := 132) (by decide +kernel))) (by decide +kernel)
theorem m_9694c8f9 : (.instanceMethod y_H_wrong : Cond) ∈ xt_tbl := xt_in (xt_t2 (List.mem_of_getElem? (i := 133) (by decide +kernel))) (by decide +kernel)
theorem m_ad7f2fdc : (.selects "StackHost" y_H_wrong y_H_wrong : Cond) ∈ xt_tbl := xt_in (xt_t2 (List.mem_of_getElem? (i := 134) (by decide +kernel))) (by decide +kernel)
theorem m_dbbe4ed2 : (.code y_H_wrong b_H_wrong 1 (some .int) : Cond) ∈ xt_tbl := xt_in (xt_t2 (List.mem_of_getElem? (i := 135) (by decide +kernel))) (by decide +kernel)
theorem m_8657e733 : (.methodLink "StackHostLaw" 176 y_M_wrong : Cond) ∈ xt_tbl := xt_in (xt_t13 (List.mem_of_getElem? (i := 174) (by decide +kernel))) (by decide +kernel)
theorem m_7fd08512 : (.instanceMethod y_M_wrong : Cond) ∈ xt_tbl := xt_in (xt_t13 (List.mem_of_getElem? (i := 175) (by decide +kernel))) (by decide +kernel)
theorem m_b1a62b1d : (.selects "StackHostModel" y_M_wrong y_M_wrong : Cond) ∈ xt_tbl := xt_in (xt_t13 (List.mem_of_getElem? (i := 176) (by decide +kernel))) (by decide +kernel)
theorem m_76c8c6f8 : (.code y_M_wrong b_M_wrong 1 (some .int) : Cond) ∈ xt_tbl := xt_in (xt_t13 (List.mem_of_getElem? (i := 177) (by decide +kernel))) (by decide +kernel)
theorem m_84047646 : (.methodLink "StackHostLaw" 177 y_H_outs : Cond) ∈ xt_tbl := xt_in (xt_t2 (List.mem_of_getElem? (i := 136) (by decide +kernel))) (by decide +kernel)
theorem m_9b2b2da6 : (.instanceMethod y_H_outs : Cond) ∈ xt_tbl := xt_in (xt_t2 (List.mem_of_getElem? (i := 137) (by decide +kernel))) (by decide +kernel)
theorem m_6177b437 : (.selects "StackHost" y_H_outs y_H_outs : Cond) ∈ xt_tbl := xt_in (xt_t2 (List.mem_of_getElem? (i := 138) (by decide +kernel))) (by decide +kernel)
theorem m_c07d7f52 : (.code y_H_outs b_H_outs 1 (some .int) : Cond) ∈ xt_tbl := xt_in (xt_t2 (List.mem_of_getElem? (i := 139) (by decide +kernel))) (by decide +kernel)
theorem m_565a38f7 : (.methodLink "StackHostLaw" 180 y_M_outs : Cond) ∈ xt_tbl := xt_in (xt_t13 (List.mem_of_getElem? (i := 203) (by decide +kernel))) (by decide +kernel)
theorem m_e4ab615e : (.instanceMethod y_M_outs : Cond) ∈ xt_tbl := xt_in (xt_t13 (List.mem_of_getElem? (i := 204) (by decide +kernel))) (by decide +kernel)
theorem m_ae7bd9ff : (.selects "StackHostModel" y_M_outs y_M_outs : Cond) ∈ xt_tbl := xt_in (xt_t13 (List.mem_of_getElem? (i := 205) (by decide +kernel))) (by decide +kernel)
theorem m_2e052e5c : (.code y_M_outs b_M_outs 1 (some .int) : Cond) ∈ xt_tbl := xt_in (xt_t13 (List.mem_of_getElem? (i := 206) (by decide +kernel))) (by decide +kernel)
theorem m_366ac763 : (.methodLink "StackHostLaw" 181 y_Law_out : Cond) ∈ xt_tbl := xt_in (xt_t9 (List.mem_of_getElem? (i := 80) (by decide +kernel))) (by decide +kernel)
theorem m_81c46ed3 : (.static y_Law_out : Cond) ∈ xt_tbl := xt_in (xt_t9 (List.mem_of_getElem? (i := 81) (by decide +kernel))) (by decide +kernel)
theorem m_84a3017b : (.codeWith y_Law_out b_Law_out 4 (some .int) [(0, 8, 11, 29)] : Cond) ∈ xt_tbl := xt_in (xt_t9 (List.mem_of_getElem? (i := 82) (by decide +kernel))) (by decide +kernel)
theorem m_25ca7fd2 : (.methodLink "StackHostLaw" 183 y_M_out : Cond) ∈ xt_tbl := xt_in (xt_t13 (List.mem_of_getElem? (i := 207) (by decide +kernel))) (by decide +kernel)
theorem m_52e25b4a : (.instanceMethod y_M_out : Cond) ∈ xt_tbl := xt_in (xt_t13 (List.mem_of_getElem? (i := 208) (by decide +kernel))) (by decide +kernel)
theorem m_a2135ad2 : (.selects "StackHostModel" y_M_out y_M_out : Cond) ∈ xt_tbl := xt_in (xt_t13 (List.mem_of_getElem? (i := 209) (by decide +kernel))) (by decide +kernel)
theorem m_37881f5c : (.code y_M_out b_M_out 2 (some .long) : Cond) ∈ xt_tbl := xt_in (xt_t13 (List.mem_of_getElem? (i := 210) (by decide +kernel))) (by decide +kernel)
theorem m_6755f50b : (.methodLink "StackHostLaw" 184 y_H_clear : Cond) ∈ xt_tbl := xt_in (xt_t2 (List.mem_of_getElem? (i := 140) (by decide +kernel))) (by decide +kernel)
theorem m_a4bf6225 : (.instanceMethod y_H_clear : Cond) ∈ xt_tbl := xt_in (xt_t2 (List.mem_of_getElem? (i := 141) (by decide +kernel))) (by decide +kernel)
theorem m_52e78cdd : (.selects "StackHost" y_H_clear y_H_clear : Cond) ∈ xt_tbl := xt_in (xt_t2 (List.mem_of_getElem? (i := 142) (by decide +kernel))) (by decide +kernel)
theorem m_85b6a32c : (.code y_H_clear b_H_clear 2 (some .int) : Cond) ∈ xt_tbl := xt_in (xt_t2 (List.mem_of_getElem? (i := 143) (by decide +kernel))) (by decide +kernel)
theorem m_595aa577 : (.methodLink "StackHostLaw" 187 y_M_clear : Cond) ∈ xt_tbl := xt_in (xt_t13 (List.mem_of_getElem? (i := 211) (by decide +kernel))) (by decide +kernel)
theorem m_3673e0eb : (.instanceMethod y_M_clear : Cond) ∈ xt_tbl := xt_in (xt_t13 (List.mem_of_getElem? (i := 212) (by decide +kernel))) (by decide +kernel)
theorem m_d69041fc : (.selects "StackHostModel" y_M_clear y_M_clear : Cond) ∈ xt_tbl := xt_in (xt_t13 (List.mem_of_getElem? (i := 213) (by decide +kernel))) (by decide +kernel)
theorem m_a68dea8a : (.code y_M_clear b_M_clear 2 (some .int) : Cond) ∈ xt_tbl := xt_in (xt_t13 (List.mem_of_getElem? (i := 214) (by decide +kernel))) (by decide +kernel)
theorem m_5b8a9786 : (.classLink "StackHostLaw" 8 "StackHost" : Cond) ∈ xt_tbl := xt_in (xt_t1 (List.mem_of_getElem? (i := 34) (by decide +kernel))) (by decide +kernel)
theorem m_8b0e565f : (.instantiable "StackHost" 11 : Cond) ∈ xt_tbl := xt_in (xt_t1 (List.mem_of_getElem? (i := 35) (by decide +kernel))) (by decide +kernel)
theorem m_d981becc : (.methodLink "StackHostLaw" 86 y_H_init : Cond) ∈ xt_tbl := xt_in (xt_t1 (List.mem_of_getElem? (i := 36) (by decide +kernel))) (by decide +kernel)
theorem m_8ce46be2 : (.instanceMethod y_H_init : Cond) ∈ xt_tbl := xt_in (xt_t1 (List.mem_of_getElem? (i := 37) (by decide +kernel))) (by decide +kernel)
theorem m_1a0c6c5e : (.code y_H_init b_H_init 1 none : Cond) ∈ xt_tbl := xt_in (xt_t1 (List.mem_of_getElem? (i := 38) (by decide +kernel))) (by decide +kernel)
theorem m_1fd49ce1 : (.classLink "StackHostLaw" 87 "StackHostModel" : Cond) ∈ xt_tbl := xt_in (xt_t9 (List.mem_of_getElem? (i := 88) (by decide +kernel))) (by decide +kernel)
theorem m_45254c46 : (.instantiable "StackHostModel" 97 : Cond) ∈ xt_tbl := xt_in (xt_t9 (List.mem_of_getElem? (i := 89) (by decide +kernel))) (by decide +kernel)
theorem m_54872f0c : (.methodLink "StackHostLaw" 89 y_M_init : Cond) ∈ xt_tbl := xt_in (xt_t9 (List.mem_of_getElem? (i := 90) (by decide +kernel))) (by decide +kernel)
theorem m_7bddef4d : (.instanceMethod y_M_init : Cond) ∈ xt_tbl := xt_in (xt_t9 (List.mem_of_getElem? (i := 91) (by decide +kernel))) (by decide +kernel)
theorem m_bbaef9d1 : (.code y_M_init b_M_init 1 none : Cond) ∈ xt_tbl := xt_in (xt_t9 (List.mem_of_getElem? (i := 92) (by decide +kernel))) (by decide +kernel)
theorem nm_Law_feed : xt_nm y_Law_feed 7 := ⟨by decide +kernel, by decide +kernel⟩
theorem nm_M_feed : xt_nm y_M_feed 5 := ⟨by decide +kernel, by decide +kernel⟩
theorem nm_Law_end : xt_nm y_Law_end 2 := ⟨by decide +kernel, by decide +kernel⟩
theorem nm_M_end : xt_nm y_M_end 1 := ⟨by decide +kernel, by decide +kernel⟩
theorem nm_Law_load : xt_nm y_Law_load 2 := ⟨by decide +kernel, by decide +kernel⟩
theorem nm_M_load : xt_nm y_M_load 0 := ⟨by decide +kernel, by decide +kernel⟩
theorem nm_Law_fault : xt_nm y_Law_fault 3 := ⟨by decide +kernel, by decide +kernel⟩
theorem nm_M_fault : xt_nm y_M_fault 1 := ⟨by decide +kernel, by decide +kernel⟩
theorem nm_Law_module : xt_nm y_Law_module 4 := ⟨by decide +kernel, by decide +kernel⟩
theorem nm_M_module : xt_nm y_M_module 2 := ⟨by decide +kernel, by decide +kernel⟩
theorem nm_Law_room : xt_nm y_Law_room 4 := ⟨by decide +kernel, by decide +kernel⟩
theorem nm_M_room : xt_nm y_M_room 2 := ⟨by decide +kernel, by decide +kernel⟩
theorem nm_Law_instantiate : xt_nm y_Law_instantiate 3 := ⟨by decide +kernel, by decide +kernel⟩
theorem nm_M_instantiate : xt_nm y_M_instantiate 1 := ⟨by decide +kernel, by decide +kernel⟩
theorem nm_Law_name : xt_nm y_Law_name 2 := ⟨by decide +kernel, by decide +kernel⟩
theorem nm_M_name1 : xt_nm y_M_name1 1 := ⟨by decide +kernel, by decide +kernel⟩
theorem nm_Law_find : xt_nm y_Law_find 3 := ⟨by decide +kernel, by decide +kernel⟩
theorem nm_M_find : xt_nm y_M_find 1 := ⟨by decide +kernel, by decide +kernel⟩
theorem nm_Law_exported : xt_nm y_Law_exported 5 := ⟨by decide +kernel, by decide +kernel⟩
theorem nm_M_exported : xt_nm y_M_exported 3 := ⟨by decide +kernel, by decide +kernel⟩
theorem nm_Law_push : xt_nm y_Law_push 3 := ⟨by decide +kernel, by decide +kernel⟩
theorem nm_M_push : xt_nm y_M_push 1 := ⟨by decide +kernel, by decide +kernel⟩
theorem nm_Law_invoke : xt_nm y_Law_invoke 3 := ⟨by decide +kernel, by decide +kernel⟩
theorem nm_M_invoke : xt_nm y_M_invoke 2 := ⟨by decide +kernel, by decide +kernel⟩
theorem nm_Law_run : xt_nm y_Law_run 3 := ⟨by decide +kernel, by decide +kernel⟩
theorem nm_M_run : xt_nm y_M_run 1 := ⟨by decide +kernel, by decide +kernel⟩
theorem nm_H_stop : xt_nm y_H_stop 0 := ⟨by decide +kernel, by decide +kernel⟩
theorem nm_M_stop : xt_nm y_M_stop 0 := ⟨by decide +kernel, by decide +kernel⟩
theorem nm_H_calls : xt_nm y_H_calls 0 := ⟨by decide +kernel, by decide +kernel⟩
theorem nm_M_calls : xt_nm y_M_calls 0 := ⟨by decide +kernel, by decide +kernel⟩
theorem nm_H_result : xt_nm y_H_result 0 := ⟨by decide +kernel, by decide +kernel⟩
theorem nm_M_result : xt_nm y_M_result 0 := ⟨by decide +kernel, by decide +kernel⟩
theorem nm_Law_trap : xt_nm y_Law_trap 3 := ⟨by decide +kernel, by decide +kernel⟩
theorem nm_M_trap : xt_nm y_M_trap 1 := ⟨by decide +kernel, by decide +kernel⟩
theorem nm_Law_pages : xt_nm y_Law_pages 3 := ⟨by decide +kernel, by decide +kernel⟩
theorem nm_M_pages : xt_nm y_M_pages 1 := ⟨by decide +kernel, by decide +kernel⟩
theorem nm_Law_peek : xt_nm y_Law_peek 4 := ⟨by decide +kernel, by decide +kernel⟩
theorem nm_M_peek : xt_nm y_M_peek 2 := ⟨by decide +kernel, by decide +kernel⟩
theorem nm_Law_poke : xt_nm y_Law_poke 4 := ⟨by decide +kernel, by decide +kernel⟩
theorem nm_M_poke : xt_nm y_M_poke 3 := ⟨by decide +kernel, by decide +kernel⟩
theorem nm_Law_variable : xt_nm y_Law_variable 4 := ⟨by decide +kernel, by decide +kernel⟩
theorem nm_M_variable : xt_nm y_M_variable 2 := ⟨by decide +kernel, by decide +kernel⟩
theorem nm_Law_element : xt_nm y_Law_element 4 := ⟨by decide +kernel, by decide +kernel⟩
theorem nm_M_element : xt_nm y_M_element 2 := ⟨by decide +kernel, by decide +kernel⟩
theorem nm_H_wrong : xt_nm y_H_wrong 0 := ⟨by decide +kernel, by decide +kernel⟩
theorem nm_M_wrong : xt_nm y_M_wrong 0 := ⟨by decide +kernel, by decide +kernel⟩
theorem nm_H_outs : xt_nm y_H_outs 0 := ⟨by decide +kernel, by decide +kernel⟩
theorem nm_M_outs : xt_nm y_M_outs 0 := ⟨by decide +kernel, by decide +kernel⟩
theorem nm_Law_out : xt_nm y_Law_out 3 := ⟨by decide +kernel, by decide +kernel⟩
theorem nm_M_out : xt_nm y_M_out 1 := ⟨by decide +kernel, by decide +kernel⟩
theorem nm_H_clear : xt_nm y_H_clear 0 := ⟨by decide +kernel, by decide +kernel⟩
theorem nm_M_clear : xt_nm y_M_clear 0 := ⟨by decide +kernel, by decide +kernel⟩
theorem nm_H_init : xt_nm y_H_init 0 := ⟨by decide +kernel, by decide +kernel⟩
theorem nm_M_init : xt_nm y_M_init 0 := ⟨by decide +kernel, by decide +kernel⟩
def T_Law_law : List (Nat × Instr × Nat) := T_Law_law_0 ++ (T_Law_law_1 ++ (T_Law_law_2 ++ (T_Law_law_3 ++ (T_Law_law_4 ++ (T_Law_law_5 ++ (T_Law_law_6 ++ (T_Law_law_7 ++ (T_Law_law_8 ++ (T_Law_law_9 ++ (T_Law_law_10 ++ (T_Law_law_11 ++ (T_Law_law_12))))))))))))
theorem D_Law_law : ∀ q ∈ T_Law_law, decode b_Law_law q.1 = .ok (q.2.1, q.2.2) := fun q h => (List.mem_append.mp h).elim (D_Law_law_0 q) (fun h => (List.mem_append.mp h).elim (D_Law_law_1 q) (fun h => (List.mem_append.mp h).elim (D_Law_law_2 q) (fun h => (List.mem_append.mp h).elim (D_Law_law_3 q) (fun h => (List.mem_append.mp h).elim (D_Law_law_4 q) (fun h => (List.mem_append.mp h).elim (D_Law_law_5 q) (fun h => (List.mem_append.mp h).elim (D_Law_law_6 q) (fun h => (List.mem_append.mp h).elim (D_Law_law_7 q) (fun h => (List.mem_append.mp h).elim (D_Law_law_8 q) (fun h => (List.mem_append.mp h).elim (D_Law_law_9 q) (fun h => (List.mem_append.mp h).elim (D_Law_law_10 q) (fun h => (List.mem_append.mp h).elim (D_Law_law_11 q) (fun h => D_Law_law_12 q h))))))))))))

/-- a place of the law: the script x0 lies outside of what may be written -/
def xb_am2 (x0 L : Nat) (xs : Nat → Int32) (l : Launch) (D : va_G) (A : Nat → Prop) (σ d MC MS : Nat) (h0 : xb_H) (Qr : Option Value → xb_H → Nat → Nat → Prop) (Qt : String → xb_H → Nat → Nat → Prop) (own nm : String) (cc : ByteArray) (maxL : Nat) (tab : List ExceptionTableEntry) (ret : Option FieldType) (pc : Nat) (lo : List (Nat × Value)) (st : List Value) (h : xb_H) (bc bs : Nat) : Prop :=
  ∀ (p : Program) (e : Env) (s : State) (m : MethodId) (args : Array Value) (below : List Frame) (meth : Method) (c : Code), xb_C own nm cc maxL tab ret A σ p s m meth c → (va_X x0 L xs s s.heap ∧ x0 < s.heap.size ∧ ¬ A x0) →
    ∀ (H : Heap) (locs : List Loc) (ls : Array Slot) (k n : Nat), xb_ext h0 h → lv_has ls maxL lo → xb_R D A h s H → va_S A s.heap H locs → k + bc ≤ MC → n + bs ≤ MS →
      W p l e (xb_rm d MC MS) s m args below meth c H locs k n (xb_MQ below (xb_Qc D A h0 MC MS Qr Qt) args s A) (F0 m pc ls st)
def xb_Pc2 (x0 L : Nat) (xs : Nat → Int32) (D : va_G) (A : Nat → Prop) (σ : Nat) (h : xb_H) (av : List Value) : Array Value → State → Prop := fun v U => xb_Pc D A σ h av v U ∧ va_X x0 L xs U U.heap ∧ x0 < U.heap.size ∧ ¬ A x0
theorem xb_ofAm2 {x0 L : Nat} {xs : Nat → Int32} {l : Launch} {D : va_G} {A : Nat → Prop} {σ : Nat} {h : xb_H} {cc : ByteArray} {y : MethodName} {d bc bs maxL : Nat} {ret : Option FieldType} {av : List Value} {Qr : Option Value → xb_H → Nat → Nat → Prop} {Qt : String → xb_H → Nat → Nat → Prop} (hy : plainName y.cls = true) (hlen : (lg_sl av).length ≤ maxL)
    (ham : xb_am2 x0 L xs l D A σ d bc bs h Qr Qt y.cls y.name cc maxL [] ret 0 (lv_args 0 av) [] h bc bs) : xb_Met l y [Cond.code y cc maxL ret] (xb_rm d bc bs) (xb_Pc2 x0 L xs D A σ h av) (xb_Qc D A h bc bs Qr Qt) A := by
  refine xb_ofW (cc := cc) (maxL := maxL) (ret := ret) hy (List.mem_singleton.mpr rfl) ?_
  intro p e s m args below meth c s₁ B hml htab hv
  obtain ⟨⟨rfl, hA, hB, hR⟩, hX9⟩ := hv
  rw [lg_entry_eq]
  exact ham p e s m _ below meth c ⟨B.exec, B.bytes, findClass_of_methodNamed B.named, B.notSynchronized, htab, hml, B.returns, hB, hA, (name_of_methodNamed B.named B.method).1⟩ hX9 s.heap [] _ 0 0 (xb_ext.rf h) (lv_entry av hlen) hR va_S.rf (by omega) (by omega)

set_option maxHeartbeats 4000000 in
set_option maxRecDepth 100000 in
theorem am_Law_law_L974 (l : Launch) (hfl : l.flags = pinnedFlags ++ [noTraceFlag]) (D : va_G) (A : Nat → Prop) (σ L : Nat) (xs : Nat → Int32) (MC MS : Nat) (h0 : xb_H) (Qr : Int32 → xb_H → Nat → Nat → Prop) (K23 : Nat → Nat → Nat → Nat → Int32 → xb_H → Nat → Nat → Prop) (hK23 : ∀ (x0 : Nat) (x1 : Nat) (x2 : Nat) (x3 : Nat) (x4 : Int32) (h : xb_H) (bc : Nat) (bs : Nat), K23 x0 x1 x2 x3 x4 h bc bs → xb_am2 x0 L xs l D A σ 15 MC MS h0 (fun v h bc bs => ∃ r, v = some (.int r) ∧ Qr r h bc bs) (fun _ _ _ _ => False) y_Law_law.cls y_Law_law.name b_Law_law 8 ([] : List ExceptionTableEntry) (some .boolean) 23 [(0, .ref x0), (1, .ref x1), (2, .ref x2), (3, .ref x3), (4, .int x4)] [] h bc bs) (x0 : Nat) (x1 : Nat) (x2 : Nat) (x3 : Nat) (x4 : Int32) (h : xb_H) (bc : Nat) (bs : Nat) (hw : w2_Law_law_L974 σ L xs K23 Qr x0 x1 x2 x3 x4 h bc bs) : xb_am2 x0 L xs l D A σ 15 MC MS h0 (fun v h bc bs => ∃ r, v = some (.int r) ∧ Qr r h bc bs) (fun _ _ _ _ => False) y_Law_law.cls y_Law_law.name b_Law_law 8 ([] : List ExceptionTableEntry) (some .boolean) 974 [(0, .ref x0), (1, .ref x1), (2, .ref x2), (3, .ref x3), (4, .int x4)] [] h bc bs := by
  unfold w2_Law_law_L974 at hw
  intro p e s m args below meth c hC hX9 H locs ls k n hE hl hR hS hk hn
  obtain ⟨hX, hbl, hbA⟩ := id hX9
  obtain ⟨hx, hb, hown, hlocks, htab, hml, hr, hB, hA, hnm⟩ := id hC
  have hts := hB.1.1.at args
  refine lv_iinc (v := (x4 + 6)) (k := 4) hx hb (xb_d D_Law_law 573 rfl) hl rfl (by first | rfl | decide) (by decide) rfl (fun ls hl => ?_)
  have hl : lv_has ls 8 [(4, .int (x4 + 6)), (0, .ref x0), (1, .ref x1), (2, .ref x2), (3, .ref x3)] := hl
  refine lv_goto (tgt := 23) hx hb (xb_d D_Law_law 574 rfl) rfl ?_
  exact hK23 x0 x1 x2 x3 (x4 + 6) h bc bs hw p e s m args below meth c hC hX9 H locs ls k n hE (lv_sub hl [1, 2, 3, 4, 0] rfl) hR hS (by omega) (by omega)

set_option maxHeartbeats 4000000 in
set_option maxRecDepth 100000 in
theorem am_Law_law_L23 (l : Launch) (hfl : l.flags = pinnedFlags ++ [noTraceFlag]) (D : va_G) (A : Nat → Prop) (σ L : Nat) (xs : Nat → Int32) (MC MS : Nat) (h0 : xb_H) (Qr : Int32 → xb_H → Nat → Nat → Prop) (n9 : Nat) : ∀ (x0 : Nat) (x1 : Nat) (x2 : Nat) (x3 : Nat) (x4 : Int32) (h : xb_H) (bc : Nat) (bs : Nat), w2_Law_law_L23 σ L xs Qr n9 x0 x1 x2 x3 x4 h bc bs → xb_am2 x0 L xs l D A σ 15 MC MS h0 (fun v h bc bs => ∃ r, v = some (.int r) ∧ Qr r h bc bs) (fun _ _ _ _ => False) y_Law_law.cls y_Law_law.name b_Law_law 8 ([] : List ExceptionTableEntry) (some .boolean) 23 [(0, .ref x0), (1, .ref x1), (2, .ref x2), (3, .ref x3), (4, .int x4)] [] h bc bs := by
  induction n9 with
  | zero => intro x0 x1 x2 x3 x4 h bc bs hw; exact False.elim hw
  | succ n9 ih =>
    intro x0 x1 x2 x3 x4 h bc bs hw
    unfold w2_Law_law_L23 at hw
    intro p e s m args below meth c hC hX9 H locs ls k n hE hl hR hS hk hn
    obtain ⟨hX, hbl, hbA⟩ := id hX9
    obtain ⟨hx, hb, hown, hlocks, htab, hml, hr, hB, hA, hnm⟩ := id hC
    have hts := hB.1.1.at args
    refine lv_iload hx hb (xb_d D_Law_law 13 rfl) (lv_at hl 4 rfl) ?_
    refine lv_aload_n hx hb (xb_d D_Law_law 14 rfl) rfl (lv_at hl 0 rfl) ?_
    refine va_slen hx hb hX hbl hbA hS (xb_d D_Law_law 15 rfl) ?_
    refine lv_bipush (v := 6) hx hb (xb_d D_Law_law 16 rfl) (by decide) ?_
    refine lv_isub hx hb (xb_d D_Law_law 17 rfl) ?_
    refine lv_icmp_gt (tgt := 980) hx hb (xb_d D_Law_law 18 rfl) rfl (fun hc2 => ?_) (fun hc2 => ?_)
    · have hw := hw.1 hc2
      refine lv_iconst (v := 1) hx hb (xb_d D_Law_law 575 rfl) (by decide) ?_
      exact xb_zret bc bs hx hb hr hlocks (show k + bc ≤ MC by omega) (show n + bs ≤ MS by omega) (by decide) hE hR hS (xb_d D_Law_law 576 rfl) hw
    · have hw := hw.2 hc2
      refine lv_aload_n hx hb (xb_d D_Law_law 19 rfl) rfl (lv_at hl 0 rfl) ?_
      refine lv_iload hx hb (xb_d D_Law_law 20 rfl) (lv_at hl 4 rfl) ?_
      obtain ⟨hi3, hw⟩ := hw
      refine va_sld hx hb hX hbl hbA hS hi3 (xb_d D_Law_law 21 rfl) ?_
      refine lv_bipush (v := 31) hx hb (xb_d D_Law_law 22 rfl) (by decide) ?_
      refine lv_iand hx hb (xb_d D_Law_law 23 rfl) ?_
      by_cases hc4 : ((xs (Int32.toNatClampNeg x4)) &&& 31) = 0
      · have hw := hw.1 hc4
        refine xt_numi hc4 ?_
        refine lv_tableIn (off := 120) (tgt := 160) hx hb (xb_d D_Law_law 24 rfl) (by decide +kernel) (by decide +kernel) (by decide +kernel) (by decide) ?_
        refine lv_aload_n hx hb (xb_d D_Law_law 25 rfl) rfl (lv_at hl 1 rfl) ?_
        refine lv_aload_n hx hb (xb_d D_Law_law 26 rfl) rfl (lv_at hl 0 rfl) ?_
        refine lv_iload hx hb (xb_d D_Law_law 27 rfl) (lv_at hl 4 rfl) ?_
        refine lv_iconst (v := 1) hx hb (xb_d D_Law_law 28 rfl) (by decide) ?_
        refine lv_iadd hx hb (xb_d D_Law_law 29 rfl) ?_
        obtain ⟨hi5, hw⟩ := hw
        refine va_sld hx hb hX hbl hbA hS hi5 (xb_d D_Law_law 30 rfl) ?_
        refine lv_aload_n hx hb (xb_d D_Law_law 31 rfl) rfl (lv_at hl 0 rfl) ?_
        refine lv_iload hx hb (xb_d D_Law_law 32 rfl) (lv_at hl 4 rfl) ?_
        refine lv_iconst (v := 2) hx hb (xb_d D_Law_law 33 rfl) (by decide) ?_
        refine lv_iadd hx hb (xb_d D_Law_law 34 rfl) ?_
        obtain ⟨hi6, hw⟩ := hw
        refine va_sld hx hb hX hbl hbA hS hi6 (xb_d D_Law_law 35 rfl) ?_
        refine lv_aload_n hx hb (xb_d D_Law_law 36 rfl) rfl (lv_at hl 0 rfl) ?_
        refine lv_iload hx hb (xb_d D_Law_law 37 rfl) (lv_at hl 4 rfl) ?_
        refine lv_iconst (v := 3) hx hb (xb_d D_Law_law 38 rfl) (by decide) ?_
        refine lv_iadd hx hb (xb_d D_Law_law 39 rfl) ?_
        obtain ⟨hi7, hw⟩ := hw
        refine va_sld hx hb hX hbl hbA hS hi7 (xb_d D_Law_law 40 rfl) ?_
        refine lv_aload_n hx hb (xb_d D_Law_law 41 rfl) rfl (lv_at hl 0 rfl) ?_
        refine lv_iload hx hb (xb_d D_Law_law 42 rfl) (lv_at hl 4 rfl) ?_
        refine lv_iconst (v := 4) hx hb (xb_d D_Law_law 43 rfl) (by decide) ?_
        refine lv_iadd hx hb (xb_d D_Law_law 44 rfl) ?_
        obtain ⟨hi8, hw⟩ := hw
        refine va_sld hx hb hX hbl hbA hS hi8 (xb_d D_Law_law 45 rfl) ?_
        refine lv_aload_n hx hb (xb_d D_Law_law 46 rfl) rfl (lv_at hl 0 rfl) ?_
        refine lv_iload hx hb (xb_d D_Law_law 47 rfl) (lv_at hl 4 rfl) ?_
        refine lv_iconst (v := 5) hx hb (xb_d D_Law_law 48 rfl) (by decide) ?_
        refine lv_iadd hx hb (xb_d D_Law_law 49 rfl) ?_
        obtain ⟨hi9, hw⟩ := hw
        refine va_sld hx hb hX hbl hbA hS hi9 (xb_d D_Law_law 50 rfl) ?_
        refine lv_aload_n hx hb (xb_d D_Law_law 51 rfl) rfl (lv_at hl 3 rfl) ?_
        refine xb_call (D := D) (A := A) (σ := σ) (h := h) (d := 4) (mc := bc) (ms := bs) (maxL := 8) (rest := []) (av := [.ref x1, .int (xs (Int32.toNatClampNeg (x4 + 1))), .int (xs (Int32.toNatClampNeg (x4 + 2))), .int (xs (Int32.toNatClampNeg (x4 + 3))), .int (xs (Int32.toNatClampNeg (x4 + 4))), .int (xs (Int32.toNatClampNeg (x4 + 5))), .ref x3]) (fun T hT X => xt_invS X hx hown (hts _ m_a77a0f23) (hts _ m_4dc3b71a) (hts _ m_6445b362) (xt_sgSH (hts _ m_c82c7dba)).1 (xt_sgSH (hts _ m_c82c7dba)).2 nm_Law_feed (g := F0 m 192 ls [.ref x3, .int (xs (Int32.toNatClampNeg (x4 + 5))), .int (xs (Int32.toNatClampNeg (x4 + 4))), .int (xs (Int32.toNatClampNeg (x4 + 3))), .int (xs (Int32.toNatClampNeg (x4 + 2))), .int (xs (Int32.toNatClampNeg (x4 + 1))), .ref x1]) rfl (argsL := [.ref x1, .int (xs (Int32.toNatClampNeg (x4 + 1))), .int (xs (Int32.toNatClampNeg (x4 + 2))), .int (xs (Int32.toNatClampNeg (x4 + 3))), .int (xs (Int32.toNatClampNeg (x4 + 4))), .int (xs (Int32.toNatClampNeg (x4 + 5))), .ref x3]) (rest := []) rfl rfl (by rw [hb]; exact (xb_d D_Law_law 52 rfl))) (ok_Law_feed l hfl D A σ x1 (xs (Int32.toNatClampNeg (x4 + 1))) (xs (Int32.toNatClampNeg (x4 + 2))) (xs (Int32.toNatClampNeg (x4 + 3))) (xs (Int32.toNatClampNeg (x4 + 4))) (xs (Int32.toNatClampNeg (x4 + 5))) x3 h bc bs _ hw) (hml.trans hl.1.symm) (by rw [hb]; exact (xb_d D_Law_law 52 rfl)) (Nat.le_of_ble_eq_true rfl) (Nat.le_of_ble_eq_true rfl) (Nat.le_of_ble_eq_true rfl) (show k + bc ≤ MC by omega) (show n + bs ≤ MS by omega) (xt_w1 hB.1 m_c82c7dba) (xt_cdOfH hB.1 m_c82c7dba) (hts _ m_6445b362) hB hR hS hA (fun vv h10 bc11 bs11 kk11 nn11 H locs hk11 hn11 hq hEh10 hR hS => ?_) (fun XX ax h10 bc11 bs11 kk11 nn11 H locs hk11 hn11 hq hEh10 hex hR hS => ?_)
        · obtain ⟨r11, rfl, hw⟩ := hq
          have hw := hw hEh10
          have hE := hE.tr hEh10
          refine W.eq (g2 := F0 m 195 ls [.int r11]) rfl ?_
          refine lv_istore hx hb (xb_d D_Law_law 53 rfl) hl (by decide) rfl (fun ls hl => ?_)
          have hl : lv_has ls 8 [(5, .int r11), (0, .ref x0), (1, .ref x1), (2, .ref x2), (3, .ref x3), (4, .int x4)] := hl
          refine lv_aload_n hx hb (xb_d D_Law_law 54 rfl) rfl (lv_at hl 3 rfl) ?_
          refine lv_aload_n hx hb (xb_d D_Law_law 55 rfl) rfl (lv_at hl 1 rfl) ?_
          refine lv_iload hx hb (xb_d D_Law_law 56 rfl) (lv_at hl 5 rfl) ?_
          refine lv_iconst (v := 1) hx hb (xb_d D_Law_law 57 rfl) (by decide) ?_
          refine lv_iadd hx hb (xb_d D_Law_law 58 rfl) ?_
          obtain ⟨hi12, hw⟩ := hw
          refine va_sld hx hb hX hbl hbA hS hi12 (xb_d D_Law_law 59 rfl) ?_
          refine lv_aload_n hx hb (xb_d D_Law_law 60 rfl) rfl (lv_at hl 1 rfl) ?_
          refine lv_iload hx hb (xb_d D_Law_law 61 rfl) (lv_at hl 5 rfl) ?_
          refine lv_iconst (v := 2) hx hb (xb_d D_Law_law 62 rfl) (by decide) ?_
          refine lv_iadd hx hb (xb_d D_Law_law 63 rfl) ?_
          obtain ⟨hi13, hw⟩ := hw
          refine va_sld hx hb hX hbl hbA hS hi13 (xb_d D_Law_law 64 rfl) ?_
          refine lv_aload_n hx hb (xb_d D_Law_law 65 rfl) rfl (lv_at hl 1 rfl) ?_
          refine lv_iload hx hb (xb_d D_Law_law 66 rfl) (lv_at hl 5 rfl) ?_
          refine lv_iconst (v := 3) hx hb (xb_d D_Law_law 67 rfl) (by decide) ?_
          refine lv_iadd hx hb (xb_d D_Law_law 68 rfl) ?_
          obtain ⟨hi14, hw⟩ := hw
          refine va_sld hx hb hX hbl hbA hS hi14 (xb_d D_Law_law 69 rfl) ?_
          refine lv_aload_n hx hb (xb_d D_Law_law 70 rfl) rfl (lv_at hl 1 rfl) ?_
          refine lv_iload hx hb (xb_d D_Law_law 71 rfl) (lv_at hl 5 rfl) ?_
          refine lv_iconst (v := 4) hx hb (xb_d D_Law_law 72 rfl) (by decide) ?_
          refine lv_iadd hx hb (xb_d D_Law_law 73 rfl) ?_
          obtain ⟨hi15, hw⟩ := hw
          refine va_sld hx hb hX hbl hbA hS hi15 (xb_d D_Law_law 74 rfl) ?_
          refine lv_aload_n hx hb (xb_d D_Law_law 75 rfl) rfl (lv_at hl 1 rfl) ?_
          refine lv_iload hx hb (xb_d D_Law_law 76 rfl) (lv_at hl 5 rfl) ?_
          refine lv_iconst (v := 5) hx hb (xb_d D_Law_law 77 rfl) (by decide) ?_
          refine lv_iadd hx hb (xb_d D_Law_law 78 rfl) ?_
          obtain ⟨hi16, hw⟩ := hw
          refine va_sld hx hb hX hbl hbA hS hi16 (xb_d D_Law_law 79 rfl) ?_
          obtain ⟨hk17, hw⟩ := hw
          refine xb_call0 (D := D) (A := A) (σ := σ) (h := h10) (d := 2) (maxL := 8) (rest := []) (av := [.ref x2, .int (xs (Int32.toNatClampNeg (x4 + 1))), .int (xs (Int32.toNatClampNeg (x4 + 2))), .int (xs (Int32.toNatClampNeg (x4 + 3))), .int (xs (Int32.toNatClampNeg (x4 + 4))), .int (xs (Int32.toNatClampNeg (x4 + 5)))]) (fun T hT X => by obtain ⟨cb9, ra9, rb9, rc9⟩ := xb_recv (ci := 8) hR rfl hk17 (by decide); exact xt_invV X hx hown (hts _ m_bafdb021) (hts _ m_8d07489a) (hts _ m_3960b39a) (xt_sigOf (hts _ m_cf44efd5)) nm_M_feed (by rw [hT]; exact ra9) rb9 rc9 (g := F0 m 228 ls [.int (xs (Int32.toNatClampNeg (x4 + 5))), .int (xs (Int32.toNatClampNeg (x4 + 4))), .int (xs (Int32.toNatClampNeg (x4 + 3))), .int (xs (Int32.toNatClampNeg (x4 + 2))), .int (xs (Int32.toNatClampNeg (x4 + 1))), .ref x2]) rfl (argsL := [.int (xs (Int32.toNatClampNeg (x4 + 1))), .int (xs (Int32.toNatClampNeg (x4 + 2))), .int (xs (Int32.toNatClampNeg (x4 + 3))), .int (xs (Int32.toNatClampNeg (x4 + 4))), .int (xs (Int32.toNatClampNeg (x4 + 5)))]) (rest := []) rfl rfl (by rw [hb]; exact (xb_d D_Law_law 80 rfl))) (ok_M_feed l hfl D A σ x2 (xs (Int32.toNatClampNeg (x4 + 1))) (xs (Int32.toNatClampNeg (x4 + 2))) (xs (Int32.toNatClampNeg (x4 + 3))) (xs (Int32.toNatClampNeg (x4 + 4))) (xs (Int32.toNatClampNeg (x4 + 5))) h10 _ hw) (hml.trans hl.1.symm) (by rw [hb]; exact (xb_d D_Law_law 80 rfl)) (Nat.le_of_ble_eq_true rfl) (Nat.le_of_ble_eq_true rfl) (Nat.le_of_ble_eq_true rfl) (show (k + kk11) ≤ MC by omega) (show (n + nn11) ≤ MS by omega) (xt_w1 hB.1 m_cf44efd5) (xt_cdOf hB.1 m_cf44efd5) (hts _ m_d5ed7bed) hB hR hS hA (fun vv h18 H locs hq hEh18 hR hS => ?_)
          obtain ⟨r19, rfl, hw⟩ := hq
          have hw := hw hEh18
          have hE := hE.tr hEh18
          refine W.eq (g2 := F0 m 231 ls [.int r19]) rfl ?_
          refine lv_istore hx hb (xb_d D_Law_law 81 rfl) hl (by decide) rfl (fun ls hl => ?_)
          have hl : lv_has ls 8 [(6, .int r19), (5, .int r11), (0, .ref x0), (1, .ref x1), (2, .ref x2), (3, .ref x3), (4, .int x4)] := hl
          refine lv_goto (tgt := 974) hx hb (xb_d D_Law_law 82 rfl) rfl ?_
          exact am_Law_law_L974 l hfl D A σ L xs MC MS h0 Qr (w2_Law_law_L23 σ L xs Qr n9) ih x0 x1 x2 x3 x4 h18 bc11 bs11 hw p e s m args below meth c hC hX9 H locs ls (k + kk11) (n + nn11) hE (lv_sub hl [2, 3, 4, 5, 6] rfl) hR hS (by omega) (by omega)
        · exact False.elim hq
      have hw := hw.2
      by_cases hc20 : ((xs (Int32.toNatClampNeg x4)) &&& 31) = 1
      · have hw := hw.1 hc20
        refine xt_numi hc20 ?_
        refine lv_tableIn (off := 196) (tgt := 236) hx hb (xb_d D_Law_law 24 rfl) (by decide +kernel) (by decide +kernel) (by decide +kernel) (by decide) ?_
        refine lv_aload_n hx hb (xb_d D_Law_law 83 rfl) rfl (lv_at hl 1 rfl) ?_
        refine lv_aload_n hx hb (xb_d D_Law_law 84 rfl) rfl (lv_at hl 0 rfl) ?_
        refine lv_iload hx hb (xb_d D_Law_law 85 rfl) (lv_at hl 4 rfl) ?_
        refine lv_iconst (v := 1) hx hb (xb_d D_Law_law 86 rfl) (by decide) ?_
        refine lv_iadd hx hb (xb_d D_Law_law 87 rfl) ?_
        obtain ⟨hi21, hw⟩ := hw
        refine va_sld hx hb hX hbl hbA hS hi21 (xb_d D_Law_law 88 rfl) ?_
        refine xb_call (D := D) (A := A) (σ := σ) (h := h) (d := 3) (mc := bc) (ms := bs) (maxL := 3) (rest := []) (av := [.ref x1, .int (xs (Int32.toNatClampNeg (x4 + 1)))]) (fun T hT X => xt_invS X hx hown (hts _ m_c0db9587) (hts _ m_7b391b8e) (hts _ m_6445b362) (xt_sgSH (hts _ m_af196c6f)).1 (xt_sgSH (hts _ m_af196c6f)).2 nm_Law_end (g := F0 m 243 ls [.int (xs (Int32.toNatClampNeg (x4 + 1))), .ref x1]) rfl (argsL := [.ref x1, .int (xs (Int32.toNatClampNeg (x4 + 1)))]) (rest := []) rfl rfl (by rw [hb]; exact (xb_d D_Law_law 89 rfl))) (ok_Law_end l hfl D A σ x1 (xs (Int32.toNatClampNeg (x4 + 1))) h bc bs _ hw) (hml.trans hl.1.symm) (by rw [hb]; exact (xb_d D_Law_law 89 rfl)) (Nat.le_of_ble_eq_true rfl) (Nat.le_of_ble_eq_true rfl) (Nat.le_of_ble_eq_true rfl) (show k + bc ≤ MC by omega) (show n + bs ≤ MS by omega) (xt_w1 hB.1 m_af196c6f) (xt_cdOfH hB.1 m_af196c6f) (hts _ m_6445b362) hB hR hS hA (fun vv h22 bc23 bs23 kk23 nn23 H locs hk23 hn23 hq hEh22 hR hS => ?_) (fun XX ax h22 bc23 bs23 kk23 nn23 H locs hk23 hn23 hq hEh22 hex hR hS => ?_)
        · obtain ⟨r23, rfl, hw⟩ := hq
          have hw := hw hEh22
          have hE := hE.tr hEh22
          refine W.eq (g2 := F0 m 246 ls [.int r23]) rfl ?_
          refine lv_istore hx hb (xb_d D_Law_law 90 rfl) hl (by decide) rfl (fun ls hl => ?_)
          have hl : lv_has ls 8 [(5, .int r23), (0, .ref x0), (1, .ref x1), (2, .ref x2), (3, .ref x3), (4, .int x4)] := hl
          refine lv_aload_n hx hb (xb_d D_Law_law 91 rfl) rfl (lv_at hl 3 rfl) ?_
          refine lv_aload_n hx hb (xb_d D_Law_law 92 rfl) rfl (lv_at hl 1 rfl) ?_
          refine lv_iload hx hb (xb_d D_Law_law 93 rfl) (lv_at hl 5 rfl) ?_
          refine lv_iconst (v := 1) hx hb (xb_d D_Law_law 94 rfl) (by decide) ?_
          refine lv_iadd hx hb (xb_d D_Law_law 95 rfl) ?_
          obtain ⟨hi24, hw⟩ := hw
          refine va_sld hx hb hX hbl hbA hS hi24 (xb_d D_Law_law 96 rfl) ?_
          obtain ⟨hk25, hw⟩ := hw
          refine xb_call0 (D := D) (A := A) (σ := σ) (h := h22) (d := 2) (maxL := 2) (rest := []) (av := [.ref x2, .int (xs (Int32.toNatClampNeg (x4 + 1)))]) (fun T hT X => by obtain ⟨cb9, ra9, rb9, rc9⟩ := xb_recv (ci := 8) hR rfl hk25 (by decide); exact xt_invV X hx hown (hts _ m_8977c23f) (hts _ m_bbe3ba13) (hts _ m_54523609) (xt_sigOf (hts _ m_81e9ec36)) nm_M_end (by rw [hT]; exact ra9) rb9 rc9 (g := F0 m 255 ls [.int (xs (Int32.toNatClampNeg (x4 + 1))), .ref x2]) rfl (argsL := [.int (xs (Int32.toNatClampNeg (x4 + 1)))]) (rest := []) rfl rfl (by rw [hb]; exact (xb_d D_Law_law 97 rfl))) (ok_M_end l hfl D A σ x2 (xs (Int32.toNatClampNeg (x4 + 1))) h22 _ hw) (hml.trans hl.1.symm) (by rw [hb]; exact (xb_d D_Law_law 97 rfl)) (Nat.le_of_ble_eq_true rfl) (Nat.le_of_ble_eq_true rfl) (Nat.le_of_ble_eq_true rfl) (show (k + kk23) ≤ MC by omega) (show (n + nn23) ≤ MS by omega) (xt_w1 hB.1 m_81e9ec36) (xt_cdOf hB.1 m_81e9ec36) (hts _ m_d5ed7bed) hB hR hS hA (fun vv h26 H locs hq hEh26 hR hS => ?_)
          obtain ⟨rfl, hw⟩ := hq
          have hw := hw hEh26
          have hE := hE.tr hEh26
          refine W.eq (g2 := F0 m 258 ls []) rfl ?_
          refine lv_goto (tgt := 974) hx hb (xb_d D_Law_law 98 rfl) rfl ?_
          exact am_Law_law_L974 l hfl D A σ L xs MC MS h0 Qr (w2_Law_law_L23 σ L xs Qr n9) ih x0 x1 x2 x3 x4 h26 bc23 bs23 hw p e s m args below meth c hC hX9 H locs ls (k + kk23) (n + nn23) hE (lv_sub hl [1, 2, 3, 4, 5] rfl) hR hS (by omega) (by omega)
        · exact False.elim hq
      have hw := hw.2
      by_cases hc28 : ((xs (Int32.toNatClampNeg x4)) &&& 31) = 2
      · have hw := hw.1 hc28
        refine xt_numi hc28 ?_
        refine lv_tableIn (off := 221) (tgt := 261) hx hb (xb_d D_Law_law 24 rfl) (by decide +kernel) (by decide +kernel) (by decide +kernel) (by decide) ?_
        refine lv_aload_n hx hb (xb_d D_Law_law 99 rfl) rfl (lv_at hl 1 rfl) ?_
        refine lv_aload_n hx hb (xb_d D_Law_law 100 rfl) rfl (lv_at hl 3 rfl) ?_
        refine xb_call (D := D) (A := A) (σ := σ) (h := h) (d := 10) (mc := bc) (ms := bs) (maxL := 3) (rest := []) (av := [.ref x1, .ref x3]) (fun T hT X => xt_invS X hx hown (hts _ m_35cf5d36) (hts _ m_4dbb5827) (hts _ m_6445b362) (xt_sgSH (hts _ m_681560db)).1 (xt_sgSH (hts _ m_681560db)).2 nm_Law_load (g := F0 m 263 ls [.ref x3, .ref x1]) rfl (argsL := [.ref x1, .ref x3]) (rest := []) rfl rfl (by rw [hb]; exact (xb_d D_Law_law 101 rfl))) (ok_Law_load l hfl D A σ x1 x3 h bc bs _ hw) (hml.trans hl.1.symm) (by rw [hb]; exact (xb_d D_Law_law 101 rfl)) (Nat.le_of_ble_eq_true rfl) (Nat.le_of_ble_eq_true rfl) (Nat.le_of_ble_eq_true rfl) (show k + bc ≤ MC by omega) (show n + bs ≤ MS by omega) (xt_w1 hB.1 m_681560db) (xt_cdOfH hB.1 m_681560db) (hts _ m_6445b362) hB hR hS hA (fun vv h29 bc30 bs30 kk30 nn30 H locs hk30 hn30 hq hEh29 hR hS => ?_) (fun XX ax h29 bc30 bs30 kk30 nn30 H locs hk30 hn30 hq hEh29 hex hR hS => ?_)
        · obtain ⟨r30, rfl, hw⟩ := hq
          have hw := hw hEh29
          have hE := hE.tr hEh29
          refine W.eq (g2 := F0 m 266 ls [.int r30]) rfl ?_
          refine lv_istore hx hb (xb_d D_Law_law 102 rfl) hl (by decide) rfl (fun ls hl => ?_)
          have hl : lv_has ls 8 [(5, .int r30), (0, .ref x0), (1, .ref x1), (2, .ref x2), (3, .ref x3), (4, .int x4)] := hl
          refine lv_aload_n hx hb (xb_d D_Law_law 103 rfl) rfl (lv_at hl 3 rfl) ?_
          obtain ⟨hk31, hw⟩ := hw
          refine xb_call (D := D) (A := A) (σ := σ) (h := h29) (d := 14) (mc := bc30) (ms := bs30) (maxL := 5) (rest := []) (av := [.ref x2]) (fun T hT X => by obtain ⟨cb9, ra9, rb9, rc9⟩ := xb_recv (ci := 8) hR rfl hk31 (by decide); exact xt_invV X hx hown (hts _ m_5a8d4d5b) (hts _ m_4a74d1ef) (hts _ m_3ee01492) (xt_sigOf (hts _ m_ac53e310)) nm_M_load (by rw [hT]; exact ra9) rb9 rc9 (g := F0 m 269 ls [.ref x2]) rfl (argsL := []) (rest := []) rfl rfl (by rw [hb]; exact (xb_d D_Law_law 104 rfl))) (ok_M_load l hfl D A σ x2 h29 bc30 bs30 _ hw) (hml.trans hl.1.symm) (by rw [hb]; exact (xb_d D_Law_law 104 rfl)) (Nat.le_of_ble_eq_true rfl) (Nat.le_of_ble_eq_true rfl) (Nat.le_of_ble_eq_true rfl) (show (k + kk30) + bc30 ≤ MC by omega) (show (n + nn30) + bs30 ≤ MS by omega) (xt_w1 hB.1 m_ac53e310) (xt_cdOf hB.1 m_ac53e310) (hts _ m_d5ed7bed) hB hR hS hA (fun vv h32 bc33 bs33 kk33 nn33 H locs hk33 hn33 hq hEh32 hR hS => ?_) (fun XX ax h32 bc33 bs33 kk33 nn33 H locs hk33 hn33 hq hEh32 hex hR hS => ?_)
          · obtain ⟨r33, rfl, hw⟩ := hq
            have hw := hw hEh32
            have hE := hE.tr hEh32
            refine W.eq (g2 := F0 m 272 ls [.int r33]) rfl ?_
            refine lv_istore hx hb (xb_d D_Law_law 105 rfl) hl (by decide) rfl (fun ls hl => ?_)
            have hl : lv_has ls 8 [(6, .int r33), (5, .int r30), (0, .ref x0), (1, .ref x1), (2, .ref x2), (3, .ref x3), (4, .int x4)] := hl
            refine lv_goto (tgt := 974) hx hb (xb_d D_Law_law 106 rfl) rfl ?_
            exact am_Law_law_L974 l hfl D A σ L xs MC MS h0 Qr (w2_Law_law_L23 σ L xs Qr n9) ih x0 x1 x2 x3 x4 h32 bc33 bs33 hw p e s m args below meth c hC hX9 H locs ls ((k + kk30) + kk33) ((n + nn30) + nn33) hE (lv_sub hl [2, 3, 4, 5, 6] rfl) hR hS (by omega) (by omega)
          · exact False.elim hq
        · exact False.elim hq
      have hw := hw.2
      by_cases hc34 : ((xs (Int32.toNatClampNeg x4)) &&& 31) = 3
      · have hw := hw.1 hc34
        refine xt_numi hc34 ?_
        refine lv_tableIn (off := 237) (tgt := 277) hx hb (xb_d D_Law_law 24 rfl) (by decide +kernel) (by decide +kernel) (by decide +kernel) (by decide) ?_
        refine lv_aload_n hx hb (xb_d D_Law_law 107 rfl) rfl (lv_at hl 1 rfl) ?_
        refine lv_aload_n hx hb (xb_d D_Law_law 108 rfl) rfl (lv_at hl 0 rfl) ?_
        refine lv_iload hx hb (xb_d D_Law_law 109 rfl) (lv_at hl 4 rfl) ?_
        refine lv_iconst (v := 1) hx hb (xb_d D_Law_law 110 rfl) (by decide) ?_
        refine lv_iadd hx hb (xb_d D_Law_law 111 rfl) ?_
        obtain ⟨hi35, hw⟩ := hw
        refine va_sld hx hb hX hbl hbA hS hi35 (xb_d D_Law_law 112 rfl) ?_
        refine lv_aload_n hx hb (xb_d D_Law_law 113 rfl) rfl (lv_at hl 3 rfl) ?_
        refine xb_call (D := D) (A := A) (σ := σ) (h := h) (d := 3) (mc := bc) (ms := bs) (maxL := 4) (rest := []) (av := [.ref x1, .int (xs (Int32.toNatClampNeg (x4 + 1))), .ref x3]) (fun T hT X => xt_invS X hx hown (hts _ m_70fb1282) (hts _ m_2a1b593e) (hts _ m_6445b362) (xt_sgSH (hts _ m_b9ddf195)).1 (xt_sgSH (hts _ m_b9ddf195)).2 nm_Law_fault (g := F0 m 285 ls [.ref x3, .int (xs (Int32.toNatClampNeg (x4 + 1))), .ref x1]) rfl (argsL := [.ref x1, .int (xs (Int32.toNatClampNeg (x4 + 1))), .ref x3]) (rest := []) rfl rfl (by rw [hb]; exact (xb_d D_Law_law 114 rfl))) (ok_Law_fault l hfl D A σ x1 (xs (Int32.toNatClampNeg (x4 + 1))) x3 h bc bs _ hw) (hml.trans hl.1.symm) (by rw [hb]; exact (xb_d D_Law_law 114 rfl)) (Nat.le_of_ble_eq_true rfl) (Nat.le_of_ble_eq_true rfl) (Nat.le_of_ble_eq_true rfl) (show k + bc ≤ MC by omega) (show n + bs ≤ MS by omega) (xt_w1 hB.1 m_b9ddf195) (xt_cdOfH hB.1 m_b9ddf195) (hts _ m_6445b362) hB hR hS hA (fun vv h36 bc37 bs37 kk37 nn37 H locs hk37 hn37 hq hEh36 hR hS => ?_) (fun XX ax h36 bc37 bs37 kk37 nn37 H locs hk37 hn37 hq hEh36 hex hR hS => ?_)
        · obtain ⟨r37, rfl, hw⟩ := hq
          have hw := hw hEh36
          have hE := hE.tr hEh36
          refine W.eq (g2 := F0 m 288 ls [.int r37]) rfl ?_
          refine lv_istore hx hb (xb_d D_Law_law 115 rfl) hl (by decide) rfl (fun ls hl => ?_)
          have hl : lv_has ls 8 [(5, .int r37), (0, .ref x0), (1, .ref x1), (2, .ref x2), (3, .ref x3), (4, .int x4)] := hl
          refine lv_aload_n hx hb (xb_d D_Law_law 116 rfl) rfl (lv_at hl 3 rfl) ?_
          refine lv_aload_n hx hb (xb_d D_Law_law 117 rfl) rfl (lv_at hl 1 rfl) ?_
          refine lv_iload hx hb (xb_d D_Law_law 118 rfl) (lv_at hl 5 rfl) ?_
          refine lv_iconst (v := 1) hx hb (xb_d D_Law_law 119 rfl) (by decide) ?_
          refine lv_iadd hx hb (xb_d D_Law_law 120 rfl) ?_
          obtain ⟨hi38, hw⟩ := hw
          refine va_sld hx hb hX hbl hbA hS hi38 (xb_d D_Law_law 121 rfl) ?_
          obtain ⟨hk39, hw⟩ := hw
          refine xb_call0 (D := D) (A := A) (σ := σ) (h := h36) (d := 2) (maxL := 2) (rest := []) (av := [.ref x2, .int (xs (Int32.toNatClampNeg (x4 + 1)))]) (fun T hT X => by obtain ⟨cb9, ra9, rb9, rc9⟩ := xb_recv (ci := 8) hR rfl hk39 (by decide); exact xt_invV X hx hown (hts _ m_94c16fde) (hts _ m_5ef48346) (hts _ m_0f8af277) (xt_sigOf (hts _ m_3417788a)) nm_M_fault (by rw [hT]; exact ra9) rb9 rc9 (g := F0 m 297 ls [.int (xs (Int32.toNatClampNeg (x4 + 1))), .ref x2]) rfl (argsL := [.int (xs (Int32.toNatClampNeg (x4 + 1)))]) (rest := []) rfl rfl (by rw [hb]; exact (xb_d D_Law_law 122 rfl))) (ok_M_fault l hfl D A σ x2 (xs (Int32.toNatClampNeg (x4 + 1))) h36 _ hw) (hml.trans hl.1.symm) (by rw [hb]; exact (xb_d D_Law_law 122 rfl)) (Nat.le_of_ble_eq_true rfl) (Nat.le_of_ble_eq_true rfl) (Nat.le_of_ble_eq_true rfl) (show (k + kk37) ≤ MC by omega) (show (n + nn37) ≤ MS by omega) (xt_w1 hB.1 m_3417788a) (xt_cdOf hB.1 m_3417788a) (hts _ m_d5ed7bed) hB hR hS hA (fun vv h40 H locs hq hEh40 hR hS => ?_)
          obtain ⟨r41, rfl, hw⟩ := hq
          have hw := hw hEh40
          have hE := hE.tr hEh40
          refine W.eq (g2 := F0 m 300 ls [.int r41]) rfl ?_
          refine lv_istore hx hb (xb_d D_Law_law 123 rfl) hl (by decide) rfl (fun ls hl => ?_)
          have hl : lv_has ls 8 [(6, .int r41), (5, .int r37), (0, .ref x0), (1, .ref x1), (2, .ref x2), (3, .ref x3), (4, .int x4)] := hl
          refine lv_goto (tgt := 974) hx hb (xb_d D_Law_law 124 rfl) rfl ?_
          exact am_Law_law_L974 l hfl D A σ L xs MC MS h0 Qr (w2_Law_law_L23 σ L xs Qr n9) ih x0 x1 x2 x3 x4 h40 bc37 bs37 hw p e s m args below meth c hC hX9 H locs ls (k + kk37) (n + nn37) hE (lv_sub hl [2, 3, 4, 5, 6] rfl) hR hS (by omega) (by omega)
        · exact False.elim hq
      have hw := hw.2
      by_cases hc42 : ((xs (Int32.toNatClampNeg x4)) &&& 31) = 4
      · have hw := hw.1 hc42
        refine xt_numi hc42 ?_
        refine lv_tableIn (off := 265) (tgt := 305) hx hb (xb_d D_Law_law 24 rfl) (by decide +kernel) (by decide +kernel) (by decide +kernel) (by decide) ?_
        refine lv_aload_n hx hb (xb_d D_Law_law 125 rfl) rfl (lv_at hl 1 rfl) ?_
        refine lv_aload_n hx hb (xb_d D_Law_law 126 rfl) rfl (lv_at hl 0 rfl) ?_
        refine lv_iload hx hb (xb_d D_Law_law 127 rfl) (lv_at hl 4 rfl) ?_
        refine lv_iconst (v := 1) hx hb (xb_d D_Law_law 128 rfl) (by decide) ?_
        refine lv_iadd hx hb (xb_d D_Law_law 129 rfl) ?_
        obtain ⟨hi43, hw⟩ := hw
        refine va_sld hx hb hX hbl hbA hS hi43 (xb_d D_Law_law 130 rfl) ?_
        refine lv_aload_n hx hb (xb_d D_Law_law 131 rfl) rfl (lv_at hl 0 rfl) ?_
        refine lv_iload hx hb (xb_d D_Law_law 132 rfl) (lv_at hl 4 rfl) ?_
        refine lv_iconst (v := 2) hx hb (xb_d D_Law_law 133 rfl) (by decide) ?_
        refine lv_iadd hx hb (xb_d D_Law_law 134 rfl) ?_
        obtain ⟨hi44, hw⟩ := hw
        refine va_sld hx hb hX hbl hbA hS hi44 (xb_d D_Law_law 135 rfl) ?_
        refine lv_aload_n hx hb (xb_d D_Law_law 136 rfl) rfl (lv_at hl 3 rfl) ?_
        refine xb_call (D := D) (A := A) (σ := σ) (h := h) (d := 4) (mc := bc) (ms := bs) (maxL := 5) (rest := []) (av := [.ref x1, .int (xs (Int32.toNatClampNeg (x4 + 1))), .int (xs (Int32.toNatClampNeg (x4 + 2))), .ref x3]) (fun T hT X => xt_invS X hx hown (hts _ m_ed25bd5f) (hts _ m_ed220d35) (hts _ m_6445b362) (xt_sgSH (hts _ m_8b6a1906)).1 (xt_sgSH (hts _ m_8b6a1906)).2 nm_Law_module (g := F0 m 319 ls [.ref x3, .int (xs (Int32.toNatClampNeg (x4 + 2))), .int (xs (Int32.toNatClampNeg (x4 + 1))), .ref x1]) rfl (argsL := [.ref x1, .int (xs (Int32.toNatClampNeg (x4 + 1))), .int (xs (Int32.toNatClampNeg (x4 + 2))), .ref x3]) (rest := []) rfl rfl (by rw [hb]; exact (xb_d D_Law_law 137 rfl))) (ok_Law_module l hfl D A σ x1 (xs (Int32.toNatClampNeg (x4 + 1))) (xs (Int32.toNatClampNeg (x4 + 2))) x3 h bc bs _ hw) (hml.trans hl.1.symm) (by rw [hb]; exact (xb_d D_Law_law 137 rfl)) (Nat.le_of_ble_eq_true rfl) (Nat.le_of_ble_eq_true rfl) (Nat.le_of_ble_eq_true rfl) (show k + bc ≤ MC by omega) (show n + bs ≤ MS by omega) (xt_w1 hB.1 m_8b6a1906) (xt_cdOfH hB.1 m_8b6a1906) (hts _ m_6445b362) hB hR hS hA (fun vv h45 bc46 bs46 kk46 nn46 H locs hk46 hn46 hq hEh45 hR hS => ?_) (fun XX ax h45 bc46 bs46 kk46 nn46 H locs hk46 hn46 hq hEh45 hex hR hS => ?_)
        · obtain ⟨r46, rfl, hw⟩ := hq
          have hw := hw hEh45
          have hE := hE.tr hEh45
          refine W.eq (g2 := F0 m 322 ls [.int r46]) rfl ?_
          refine lv_istore hx hb (xb_d D_Law_law 138 rfl) hl (by decide) rfl (fun ls hl => ?_)
          have hl : lv_has ls 8 [(5, .int r46), (0, .ref x0), (1, .ref x1), (2, .ref x2), (3, .ref x3), (4, .int x4)] := hl
          refine lv_aload_n hx hb (xb_d D_Law_law 139 rfl) rfl (lv_at hl 3 rfl) ?_
          refine lv_aload_n hx hb (xb_d D_Law_law 140 rfl) rfl (lv_at hl 1 rfl) ?_
          refine lv_iload hx hb (xb_d D_Law_law 141 rfl) (lv_at hl 5 rfl) ?_
          refine lv_iconst (v := 1) hx hb (xb_d D_Law_law 142 rfl) (by decide) ?_
          refine lv_iadd hx hb (xb_d D_Law_law 143 rfl) ?_
          obtain ⟨hi47, hw⟩ := hw
          refine va_sld hx hb hX hbl hbA hS hi47 (xb_d D_Law_law 144 rfl) ?_
          refine lv_aload_n hx hb (xb_d D_Law_law 145 rfl) rfl (lv_at hl 1 rfl) ?_
          refine lv_iload hx hb (xb_d D_Law_law 146 rfl) (lv_at hl 5 rfl) ?_
          refine lv_iconst (v := 2) hx hb (xb_d D_Law_law 147 rfl) (by decide) ?_
          refine lv_iadd hx hb (xb_d D_Law_law 148 rfl) ?_
          obtain ⟨hi48, hw⟩ := hw
          refine va_sld hx hb hX hbl hbA hS hi48 (xb_d D_Law_law 149 rfl) ?_
          obtain ⟨hk49, hw⟩ := hw
          refine xb_call0 (D := D) (A := A) (σ := σ) (h := h45) (d := 4) (maxL := 3) (rest := []) (av := [.ref x2, .int (xs (Int32.toNatClampNeg (x4 + 1))), .int (xs (Int32.toNatClampNeg (x4 + 2)))]) (fun T hT X => by obtain ⟨cb9, ra9, rb9, rc9⟩ := xb_recv (ci := 8) hR rfl hk49 (by decide); exact xt_invV X hx hown (hts _ m_b8ee8cb4) (hts _ m_9b45ccfe) (hts _ m_28cdfd27) (xt_sigOf (hts _ m_4727a86b)) nm_M_module (by rw [hT]; exact ra9) rb9 rc9 (g := F0 m 337 ls [.int (xs (Int32.toNatClampNeg (x4 + 2))), .int (xs (Int32.toNatClampNeg (x4 + 1))), .ref x2]) rfl (argsL := [.int (xs (Int32.toNatClampNeg (x4 + 1))), .int (xs (Int32.toNatClampNeg (x4 + 2)))]) (rest := []) rfl rfl (by rw [hb]; exact (xb_d D_Law_law 150 rfl))) (ok_M_module l hfl D A σ x2 (xs (Int32.toNatClampNeg (x4 + 1))) (xs (Int32.toNatClampNeg (x4 + 2))) h45 _ hw) (hml.trans hl.1.symm) (by rw [hb]; exact (xb_d D_Law_law 150 rfl)) (Nat.le_of_ble_eq_true rfl) (Nat.le_of_ble_eq_true rfl) (Nat.le_of_ble_eq_true rfl) (show (k + kk46) ≤ MC by omega) (show (n + nn46) ≤ MS by omega) (xt_w1 hB.1 m_4727a86b) (xt_cdOf hB.1 m_4727a86b) (hts _ m_d5ed7bed) hB hR hS hA (fun vv h50 H locs hq hEh50 hR hS => ?_)
          obtain ⟨r51, rfl, hw⟩ := hq
          have hw := hw hEh50
          have hE := hE.tr hEh50
          refine W.eq (g2 := F0 m 340 ls [.int r51]) rfl ?_
          refine lv_istore hx hb (xb_d D_Law_law 151 rfl) hl (by decide) rfl (fun ls hl => ?_)
          have hl : lv_has ls 8 [(6, .int r51), (5, .int r46), (0, .ref x0), (1, .ref x1), (2, .ref x2), (3, .ref x3), (4, .int x4)] := hl
          refine lv_goto (tgt := 974) hx hb (xb_d D_Law_law 152 rfl) rfl ?_
          exact am_Law_law_L974 l hfl D A σ L xs MC MS h0 Qr (w2_Law_law_L23 σ L xs Qr n9) ih x0 x1 x2 x3 x4 h50 bc46 bs46 hw p e s m args below meth c hC hX9 H locs ls (k + kk46) (n + nn46) hE (lv_sub hl [2, 3, 4, 5, 6] rfl) hR hS (by omega) (by omega)
        · exact False.elim hq
      have hw := hw.2
      by_cases hc52 : ((xs (Int32.toNatClampNeg x4)) &&& 31) = 5
      · have hw := hw.1 hc52
        refine xt_numi hc52 ?_
        refine lv_tableIn (off := 305) (tgt := 345) hx hb (xb_d D_Law_law 24 rfl) (by decide +kernel) (by decide +kernel) (by decide +kernel) (by decide) ?_
        refine lv_aload_n hx hb (xb_d D_Law_law 153 rfl) rfl (lv_at hl 1 rfl) ?_
        refine lv_aload_n hx hb (xb_d D_Law_law 154 rfl) rfl (lv_at hl 0 rfl) ?_
        refine lv_iload hx hb (xb_d D_Law_law 155 rfl) (lv_at hl 4 rfl) ?_
        refine lv_iconst (v := 1) hx hb (xb_d D_Law_law 156 rfl) (by decide) ?_
        refine lv_iadd hx hb (xb_d D_Law_law 157 rfl) ?_
        obtain ⟨hi53, hw⟩ := hw
        refine va_sld hx hb hX hbl hbA hS hi53 (xb_d D_Law_law 158 rfl) ?_
        refine lv_aload_n hx hb (xb_d D_Law_law 159 rfl) rfl (lv_at hl 0 rfl) ?_
        refine lv_iload hx hb (xb_d D_Law_law 160 rfl) (lv_at hl 4 rfl) ?_
        refine lv_iconst (v := 2) hx hb (xb_d D_Law_law 161 rfl) (by decide) ?_
        refine lv_iadd hx hb (xb_d D_Law_law 162 rfl) ?_
        obtain ⟨hi54, hw⟩ := hw
        refine va_sld hx hb hX hbl hbA hS hi54 (xb_d D_Law_law 163 rfl) ?_
        refine lv_aload_n hx hb (xb_d D_Law_law 164 rfl) rfl (lv_at hl 3 rfl) ?_
        refine xb_call (D := D) (A := A) (σ := σ) (h := h) (d := 4) (mc := bc) (ms := bs) (maxL := 5) (rest := []) (av := [.ref x1, .int (xs (Int32.toNatClampNeg (x4 + 1))), .int (xs (Int32.toNatClampNeg (x4 + 2))), .ref x3]) (fun T hT X => xt_invS X hx hown (hts _ m_51387e96) (hts _ m_4fdd4d2e) (hts _ m_6445b362) (xt_sgSH (hts _ m_21e6add5)).1 (xt_sgSH (hts _ m_21e6add5)).2 nm_Law_room (g := F0 m 359 ls [.ref x3, .int (xs (Int32.toNatClampNeg (x4 + 2))), .int (xs (Int32.toNatClampNeg (x4 + 1))), .ref x1]) rfl (argsL := [.ref x1, .int (xs (Int32.toNatClampNeg (x4 + 1))), .int (xs (Int32.toNatClampNeg (x4 + 2))), .ref x3]) (rest := []) rfl rfl (by rw [hb]; exact (xb_d D_Law_law 165 rfl))) (ok_Law_room l hfl D A σ x1 (xs (Int32.toNatClampNeg (x4 + 1))) (xs (Int32.toNatClampNeg (x4 + 2))) x3 h bc bs _ hw) (hml.trans hl.1.symm) (by rw [hb]; exact (xb_d D_Law_law 165 rfl)) (Nat.le_of_ble_eq_true rfl) (Nat.le_of_ble_eq_true rfl) (Nat.le_of_ble_eq_true rfl) (show k + bc ≤ MC by omega) (show n + bs ≤ MS by omega) (xt_w1 hB.1 m_21e6add5) (xt_cdOfH hB.1 m_21e6add5) (hts _ m_6445b362) hB hR hS hA (fun vv h55 bc56 bs56 kk56 nn56 H locs hk56 hn56 hq hEh55 hR hS => ?_) (fun XX ax h55 bc56 bs56 kk56 nn56 H locs hk56 hn56 hq hEh55 hex hR hS => ?_)
        · obtain ⟨r56, rfl, hw⟩ := hq
          have hw := hw hEh55
          have hE := hE.tr hEh55
          refine W.eq (g2 := F0 m 362 ls [.int r56]) rfl ?_
          refine lv_istore hx hb (xb_d D_Law_law 166 rfl) hl (by decide) rfl (fun ls hl => ?_)
          have hl : lv_has ls 8 [(5, .int r56), (0, .ref x0), (1, .ref x1), (2, .ref x2), (3, .ref x3), (4, .int x4)] := hl
          refine lv_aload_n hx hb (xb_d D_Law_law 167 rfl) rfl (lv_at hl 3 rfl) ?_
          refine lv_aload_n hx hb (xb_d D_Law_law 168 rfl) rfl (lv_at hl 1 rfl) ?_
          refine lv_iload hx hb (xb_d D_Law_law 169 rfl) (lv_at hl 5 rfl) ?_
          refine lv_iconst (v := 1) hx hb (xb_d D_Law_law 170 rfl) (by decide) ?_
          refine lv_iadd hx hb (xb_d D_Law_law 171 rfl) ?_
          obtain ⟨hi57, hw⟩ := hw
          refine va_sld hx hb hX hbl hbA hS hi57 (xb_d D_Law_law 172 rfl) ?_
          refine lv_aload_n hx hb (xb_d D_Law_law 173 rfl) rfl (lv_at hl 1 rfl) ?_
          refine lv_iload hx hb (xb_d D_Law_law 174 rfl) (lv_at hl 5 rfl) ?_
          refine lv_iconst (v := 2) hx hb (xb_d D_Law_law 175 rfl) (by decide) ?_
          refine lv_iadd hx hb (xb_d D_Law_law 176 rfl) ?_
          obtain ⟨hi58, hw⟩ := hw
          refine va_sld hx hb hX hbl hbA hS hi58 (xb_d D_Law_law 177 rfl) ?_
          obtain ⟨hk59, hw⟩ := hw
          refine xb_call0 (D := D) (A := A) (σ := σ) (h := h55) (d := 3) (maxL := 3) (rest := []) (av := [.ref x2, .int (xs (Int32.toNatClampNeg (x4 + 1))), .int (xs (Int32.toNatClampNeg (x4 + 2)))]) (fun T hT X => by obtain ⟨cb9, ra9, rb9, rc9⟩ := xb_recv (ci := 8) hR rfl hk59 (by decide); exact xt_invV X hx hown (hts _ m_385986d4) (hts _ m_de1fd268) (hts _ m_6999cd16) (xt_sigOf (hts _ m_5826b26c)) nm_M_room (by rw [hT]; exact ra9) rb9 rc9 (g := F0 m 377 ls [.int (xs (Int32.toNatClampNeg (x4 + 2))), .int (xs (Int32.toNatClampNeg (x4 + 1))), .ref x2]) rfl (argsL := [.int (xs (Int32.toNatClampNeg (x4 + 1))), .int (xs (Int32.toNatClampNeg (x4 + 2)))]) (rest := []) rfl rfl (by rw [hb]; exact (xb_d D_Law_law 178 rfl))) (ok_M_room l hfl D A σ x2 (xs (Int32.toNatClampNeg (x4 + 1))) (xs (Int32.toNatClampNeg (x4 + 2))) h55 _ hw) (hml.trans hl.1.symm) (by rw [hb]; exact (xb_d D_Law_law 178 rfl)) (Nat.le_of_ble_eq_true rfl) (Nat.le_of_ble_eq_true rfl) (Nat.le_of_ble_eq_true rfl) (show (k + kk56) ≤ MC by omega) (show (n + nn56) ≤ MS by omega) (xt_w1 hB.1 m_5826b26c) (xt_cdOf hB.1 m_5826b26c) (hts _ m_d5ed7bed) hB hR hS hA (fun vv h60 H locs hq hEh60 hR hS => ?_)
          obtain ⟨r61, rfl, hw⟩ := hq
          have hw := hw hEh60
          have hE := hE.tr hEh60
          refine W.eq (g2 := F0 m 380 ls [.int r61]) rfl ?_
          refine lv_istore hx hb (xb_d D_Law_law 179 rfl) hl (by decide) rfl (fun ls hl => ?_)
          have hl : lv_has ls 8 [(6, .int r61), (5, .int r56), (0, .ref x0), (1, .ref x1), (2, .ref x2), (3, .ref x3), (4, .int x4)] := hl
          refine lv_goto (tgt := 974) hx hb (xb_d D_Law_law 180 rfl) rfl ?_
          exact am_Law_law_L974 l hfl D A σ L xs MC MS h0 Qr (w2_Law_law_L23 σ L xs Qr n9) ih x0 x1 x2 x3 x4 h60 bc56 bs56 hw p e s m args below meth c hC hX9 H locs ls (k + kk56) (n + nn56) hE (lv_sub hl [2, 3, 4, 5, 6] rfl) hR hS (by omega) (by omega)
        · exact False.elim hq
      have hw := hw.2
      by_cases hc62 : ((xs (Int32.toNatClampNeg x4)) &&& 31) = 6
      · have hw := hw.1 hc62
        refine xt_numi hc62 ?_
        refine lv_tableIn (off := 345) (tgt := 385) hx hb (xb_d D_Law_law 24 rfl) (by decide +kernel) (by decide +kernel) (by decide +kernel) (by decide) ?_
        refine lv_aload_n hx hb (xb_d D_Law_law 181 rfl) rfl (lv_at hl 1 rfl) ?_
        refine lv_aload_n hx hb (xb_d D_Law_law 182 rfl) rfl (lv_at hl 0 rfl) ?_
        refine lv_iload hx hb (xb_d D_Law_law 183 rfl) (lv_at hl 4 rfl) ?_
        refine lv_iconst (v := 1) hx hb (xb_d D_Law_law 184 rfl) (by decide) ?_
        refine lv_iadd hx hb (xb_d D_Law_law 185 rfl) ?_
        obtain ⟨hi63, hw⟩ := hw
        refine va_sld hx hb hX hbl hbA hS hi63 (xb_d D_Law_law 186 rfl) ?_
        refine lv_aload_n hx hb (xb_d D_Law_law 187 rfl) rfl (lv_at hl 3 rfl) ?_
        refine xb_call (D := D) (A := A) (σ := σ) (h := h) (d := 9) (mc := bc) (ms := bs) (maxL := 4) (rest := []) (av := [.ref x1, .int (xs (Int32.toNatClampNeg (x4 + 1))), .ref x3]) (fun T hT X => xt_invS X hx hown (hts _ m_68315cf4) (hts _ m_ca4e0918) (hts _ m_6445b362) (xt_sgSH (hts _ m_2e473db3)).1 (xt_sgSH (hts _ m_2e473db3)).2 nm_Law_instantiate (g := F0 m 393 ls [.ref x3, .int (xs (Int32.toNatClampNeg (x4 + 1))), .ref x1]) rfl (argsL := [.ref x1, .int (xs (Int32.toNatClampNeg (x4 + 1))), .ref x3]) (rest := []) rfl rfl (by rw [hb]; exact (xb_d D_Law_law 188 rfl))) (ok_Law_instantiate l hfl D A σ x1 (xs (Int32.toNatClampNeg (x4 + 1))) x3 h bc bs _ hw) (hml.trans hl.1.symm) (by rw [hb]; exact (xb_d D_Law_law 188 rfl)) (Nat.le_of_ble_eq_true rfl) (Nat.le_of_ble_eq_true rfl) (Nat.le_of_ble_eq_true rfl) (show k + bc ≤ MC by omega) (show n + bs ≤ MS by omega) (xt_w1 hB.1 m_2e473db3) (xt_cdOfH hB.1 m_2e473db3) (hts _ m_6445b362) hB hR hS hA (fun vv h64 bc65 bs65 kk65 nn65 H locs hk65 hn65 hq hEh64 hR hS => ?_) (fun XX ax h64 bc65 bs65 kk65 nn65 H locs hk65 hn65 hq hEh64 hex hR hS => ?_)
        · obtain ⟨r65, rfl, hw⟩ := hq
          have hw := hw hEh64
          have hE := hE.tr hEh64
          refine W.eq (g2 := F0 m 396 ls [.int r65]) rfl ?_
          refine lv_istore hx hb (xb_d D_Law_law 189 rfl) hl (by decide) rfl (fun ls hl => ?_)
          have hl : lv_has ls 8 [(5, .int r65), (0, .ref x0), (1, .ref x1), (2, .ref x2), (3, .ref x3), (4, .int x4)] := hl
          refine lv_aload_n hx hb (xb_d D_Law_law 190 rfl) rfl (lv_at hl 3 rfl) ?_
          refine lv_aload_n hx hb (xb_d D_Law_law 191 rfl) rfl (lv_at hl 1 rfl) ?_
          refine lv_iload hx hb (xb_d D_Law_law 192 rfl) (lv_at hl 5 rfl) ?_
          refine lv_iconst (v := 1) hx hb (xb_d D_Law_law 193 rfl) (by decide) ?_
          refine lv_iadd hx hb (xb_d D_Law_law 194 rfl) ?_
          obtain ⟨hi66, hw⟩ := hw
          refine va_sld hx hb hX hbl hbA hS hi66 (xb_d D_Law_law 195 rfl) ?_
          obtain ⟨hk67, hw⟩ := hw
          refine xb_call (D := D) (A := A) (σ := σ) (h := h64) (d := 12) (mc := bc65) (ms := bs65) (maxL := 14) (rest := []) (av := [.ref x2, .int (xs (Int32.toNatClampNeg (x4 + 1)))]) (fun T hT X => by obtain ⟨cb9, ra9, rb9, rc9⟩ := xb_recv (ci := 8) hR rfl hk67 (by decide); exact xt_invV X hx hown (hts _ m_489f947d) (hts _ m_9c192fc6) (hts _ m_4464a7c4) (xt_sigOf (hts _ m_7f8a5ab1)) nm_M_instantiate (by rw [hT]; exact ra9) rb9 rc9 (g := F0 m 405 ls [.int (xs (Int32.toNatClampNeg (x4 + 1))), .ref x2]) rfl (argsL := [.int (xs (Int32.toNatClampNeg (x4 + 1)))]) (rest := []) rfl rfl (by rw [hb]; exact (xb_d D_Law_law 196 rfl))) (ok_M_instantiate l hfl D A σ x2 (xs (Int32.toNatClampNeg (x4 + 1))) h64 bc65 bs65 _ hw) (hml.trans hl.1.symm) (by rw [hb]; exact (xb_d D_Law_law 196 rfl)) (Nat.le_of_ble_eq_true rfl) (Nat.le_of_ble_eq_true rfl) (Nat.le_of_ble_eq_true rfl) (show (k + kk65) + bc65 ≤ MC by omega) (show (n + nn65) + bs65 ≤ MS by omega) (xt_w1 hB.1 m_7f8a5ab1) (xt_cdOf hB.1 m_7f8a5ab1) (hts _ m_d5ed7bed) hB hR hS hA (fun vv h68 bc69 bs69 kk69 nn69 H locs hk69 hn69 hq hEh68 hR hS => ?_) (fun XX ax h68 bc69 bs69 kk69 nn69 H locs hk69 hn69 hq hEh68 hex hR hS => ?_)
          · obtain ⟨r69, rfl, hw⟩ := hq
            have hw := hw hEh68
            have hE := hE.tr hEh68
            refine W.eq (g2 := F0 m 408 ls [.int r69]) rfl ?_
            refine lv_istore hx hb (xb_d D_Law_law 197 rfl) hl (by decide) rfl (fun ls hl => ?_)
            have hl : lv_has ls 8 [(6, .int r69), (5, .int r65), (0, .ref x0), (1, .ref x1), (2, .ref x2), (3, .ref x3), (4, .int x4)] := hl
            refine lv_goto (tgt := 974) hx hb (xb_d D_Law_law 198 rfl) rfl ?_
            exact am_Law_law_L974 l hfl D A σ L xs MC MS h0 Qr (w2_Law_law_L23 σ L xs Qr n9) ih x0 x1 x2 x3 x4 h68 bc69 bs69 hw p e s m args below meth c hC hX9 H locs ls ((k + kk65) + kk69) ((n + nn65) + nn69) hE (lv_sub hl [2, 3, 4, 5, 6] rfl) hR hS (by omega) (by omega)
          · exact False.elim hq
        · exact False.elim hq
      have hw := hw.2
      by_cases hc70 : ((xs (Int32.toNatClampNeg x4)) &&& 31) = 7
      · have hw := hw.1 hc70
        refine xt_numi hc70 ?_
        refine lv_tableIn (off := 373) (tgt := 413) hx hb (xb_d D_Law_law 24 rfl) (by decide +kernel) (by decide +kernel) (by decide +kernel) (by decide) ?_
        refine lv_aload_n hx hb (xb_d D_Law_law 199 rfl) rfl (lv_at hl 1 rfl) ?_
        refine lv_aload_n hx hb (xb_d D_Law_law 200 rfl) rfl (lv_at hl 0 rfl) ?_
        refine lv_iload hx hb (xb_d D_Law_law 201 rfl) (lv_at hl 4 rfl) ?_
        refine lv_iconst (v := 1) hx hb (xb_d D_Law_law 202 rfl) (by decide) ?_
        refine lv_iadd hx hb (xb_d D_Law_law 203 rfl) ?_
        obtain ⟨hi71, hw⟩ := hw
        refine va_sld hx hb hX hbl hbA hS hi71 (xb_d D_Law_law 204 rfl) ?_
        refine xb_call (D := D) (A := A) (σ := σ) (h := h) (d := 7) (mc := bc) (ms := bs) (maxL := 3) (rest := []) (av := [.ref x1, .int (xs (Int32.toNatClampNeg (x4 + 1)))]) (fun T hT X => xt_invS X hx hown (hts _ m_5d8f3d12) (hts _ m_95e9795d) (hts _ m_6445b362) (xt_sgSH (hts _ m_25ac2c1f)).1 (xt_sgSH (hts _ m_25ac2c1f)).2 nm_Law_name (g := F0 m 420 ls [.int (xs (Int32.toNatClampNeg (x4 + 1))), .ref x1]) rfl (argsL := [.ref x1, .int (xs (Int32.toNatClampNeg (x4 + 1)))]) (rest := []) rfl rfl (by rw [hb]; exact (xb_d D_Law_law 205 rfl))) (ok_Law_name l hfl D A σ x1 (xs (Int32.toNatClampNeg (x4 + 1))) h bc bs _ hw) (hml.trans hl.1.symm) (by rw [hb]; exact (xb_d D_Law_law 205 rfl)) (Nat.le_of_ble_eq_true rfl) (Nat.le_of_ble_eq_true rfl) (Nat.le_of_ble_eq_true rfl) (show k + bc ≤ MC by omega) (show n + bs ≤ MS by omega) (xt_w1 hB.1 m_25ac2c1f) (xt_cdOfH hB.1 m_25ac2c1f) (hts _ m_6445b362) hB hR hS hA (fun vv h72 bc73 bs73 kk73 nn73 H locs hk73 hn73 hq hEh72 hR hS => ?_) (fun XX ax h72 bc73 bs73 kk73 nn73 H locs hk73 hn73 hq hEh72 hex hR hS => ?_)
        · obtain ⟨r73, rfl, hw⟩ := hq
          have hw := hw hEh72
          have hE := hE.tr hEh72
          refine W.eq (g2 := F0 m 423 ls [.int r73]) rfl ?_
          refine lv_istore hx hb (xb_d D_Law_law 206 rfl) hl (by decide) rfl (fun ls hl => ?_)
          have hl : lv_has ls 8 [(5, .int r73), (0, .ref x0), (1, .ref x1), (2, .ref x2), (3, .ref x3), (4, .int x4)] := hl
          refine lv_aload_n hx hb (xb_d D_Law_law 207 rfl) rfl (lv_at hl 3 rfl) ?_
          refine lv_aload_n hx hb (xb_d D_Law_law 208 rfl) rfl (lv_at hl 1 rfl) ?_
          refine lv_iload hx hb (xb_d D_Law_law 209 rfl) (lv_at hl 5 rfl) ?_
          refine lv_iconst (v := 1) hx hb (xb_d D_Law_law 210 rfl) (by decide) ?_
          refine lv_iadd hx hb (xb_d D_Law_law 211 rfl) ?_
          obtain ⟨hi74, hw⟩ := hw
          refine va_sld hx hb hX hbl hbA hS hi74 (xb_d D_Law_law 212 rfl) ?_
          obtain ⟨hk75, hw⟩ := hw
          refine xb_call (D := D) (A := A) (σ := σ) (h := h72) (d := 4) (mc := bc73) (ms := bs73) (maxL := 2) (rest := []) (av := [.ref x2, .int (xs (Int32.toNatClampNeg (x4 + 1)))]) (fun T hT X => by obtain ⟨cb9, ra9, rb9, rc9⟩ := xb_recv (ci := 8) hR rfl hk75 (by decide); exact xt_invV X hx hown (hts _ m_c2d2d414) (hts _ m_ceb59520) (hts _ m_66c1bb6d) (xt_sigOf (hts _ m_b957af9e)) nm_M_name1 (by rw [hT]; exact ra9) rb9 rc9 (g := F0 m 432 ls [.int (xs (Int32.toNatClampNeg (x4 + 1))), .ref x2]) rfl (argsL := [.int (xs (Int32.toNatClampNeg (x4 + 1)))]) (rest := []) rfl rfl (by rw [hb]; exact (xb_d D_Law_law 213 rfl))) (ok_M_name1 l hfl D A σ x2 (xs (Int32.toNatClampNeg (x4 + 1))) h72 bc73 bs73 _ hw) (hml.trans hl.1.symm) (by rw [hb]; exact (xb_d D_Law_law 213 rfl)) (Nat.le_of_ble_eq_true rfl) (Nat.le_of_ble_eq_true rfl) (Nat.le_of_ble_eq_true rfl) (show (k + kk73) + bc73 ≤ MC by omega) (show (n + nn73) + bs73 ≤ MS by omega) (xt_w1 hB.1 m_b957af9e) (xt_cdOf hB.1 m_b957af9e) (hts _ m_d5ed7bed) hB hR hS hA (fun vv h76 bc77 bs77 kk77 nn77 H locs hk77 hn77 hq hEh76 hR hS => ?_) (fun XX ax h76 bc77 bs77 kk77 nn77 H locs hk77 hn77 hq hEh76 hex hR hS => ?_)
          · obtain ⟨rfl, hw⟩ := hq
            have hw := hw hEh76
            have hE := hE.tr hEh76
            refine W.eq (g2 := F0 m 435 ls []) rfl ?_
            refine lv_goto (tgt := 974) hx hb (xb_d D_Law_law 214 rfl) rfl ?_
            exact am_Law_law_L974 l hfl D A σ L xs MC MS h0 Qr (w2_Law_law_L23 σ L xs Qr n9) ih x0 x1 x2 x3 x4 h76 bc77 bs77 hw p e s m args below meth c hC hX9 H locs ls ((k + kk73) + kk77) ((n + nn73) + nn77) hE (lv_sub hl [1, 2, 3, 4, 5] rfl) hR hS (by omega) (by omega)
          · exact False.elim hq
        · exact False.elim hq
      have hw := hw.2
      by_cases hc78 : ((xs (Int32.toNatClampNeg x4)) &&& 31) = 8
      · have hw := hw.1 hc78
        refine xt_numi hc78 ?_
        refine lv_tableIn (off := 398) (tgt := 438) hx hb (xb_d D_Law_law 24 rfl) (by decide +kernel) (by decide +kernel) (by decide +kernel) (by decide) ?_
        refine lv_aload_n hx hb (xb_d D_Law_law 215 rfl) rfl (lv_at hl 1 rfl) ?_
        refine lv_aload_n hx hb (xb_d D_Law_law 216 rfl) rfl (lv_at hl 0 rfl) ?_
        refine lv_iload hx hb (xb_d D_Law_law 217 rfl) (lv_at hl 4 rfl) ?_
        refine lv_iconst (v := 1) hx hb (xb_d D_Law_law 218 rfl) (by decide) ?_
        refine lv_iadd hx hb (xb_d D_Law_law 219 rfl) ?_
        obtain ⟨hi79, hw⟩ := hw
        refine va_sld hx hb hX hbl hbA hS hi79 (xb_d D_Law_law 220 rfl) ?_
        refine lv_aload_n hx hb (xb_d D_Law_law 221 rfl) rfl (lv_at hl 3 rfl) ?_
        refine xb_call (D := D) (A := A) (σ := σ) (h := h) (d := 6) (mc := bc) (ms := bs) (maxL := 4) (rest := []) (av := [.ref x1, .int (xs (Int32.toNatClampNeg (x4 + 1))), .ref x3]) (fun T hT X => xt_invS X hx hown (hts _ m_c1ab5984) (hts _ m_8fcc0bf2) (hts _ m_6445b362) (xt_sgSH (hts _ m_e6af087c)).1 (xt_sgSH (hts _ m_e6af087c)).2 nm_Law_find (g := F0 m 446 ls [.ref x3, .int (xs (Int32.toNatClampNeg (x4 + 1))), .ref x1]) rfl (argsL := [.ref x1, .int (xs (Int32.toNatClampNeg (x4 + 1))), .ref x3]) (rest := []) rfl rfl (by rw [hb]; exact (xb_d D_Law_law 222 rfl))) (ok_Law_find l hfl D A σ x1 (xs (Int32.toNatClampNeg (x4 + 1))) x3 h bc bs _ hw) (hml.trans hl.1.symm) (by rw [hb]; exact (xb_d D_Law_law 222 rfl)) (Nat.le_of_ble_eq_true rfl) (Nat.le_of_ble_eq_true rfl) (Nat.le_of_ble_eq_true rfl) (show k + bc ≤ MC by omega) (show n + bs ≤ MS by omega) (xt_w1 hB.1 m_e6af087c) (xt_cdOfH hB.1 m_e6af087c) (hts _ m_6445b362) hB hR hS hA (fun vv h80 bc81 bs81 kk81 nn81 H locs hk81 hn81 hq hEh80 hR hS => ?_) (fun XX ax h80 bc81 bs81 kk81 nn81 H locs hk81 hn81 hq hEh80 hex hR hS => ?_)
        · obtain ⟨r81, rfl, hw⟩ := hq
          have hw := hw hEh80
          have hE := hE.tr hEh80
          refine W.eq (g2 := F0 m 449 ls [.int r81]) rfl ?_
          refine lv_istore hx hb (xb_d D_Law_law 223 rfl) hl (by decide) rfl (fun ls hl => ?_)
          have hl : lv_has ls 8 [(5, .int r81), (0, .ref x0), (1, .ref x1), (2, .ref x2), (3, .ref x3), (4, .int x4)] := hl
          refine lv_aload_n hx hb (xb_d D_Law_law 224 rfl) rfl (lv_at hl 3 rfl) ?_
          refine lv_aload_n hx hb (xb_d D_Law_law 225 rfl) rfl (lv_at hl 1 rfl) ?_
          refine lv_iload hx hb (xb_d D_Law_law 226 rfl) (lv_at hl 5 rfl) ?_
          refine lv_iconst (v := 1) hx hb (xb_d D_Law_law 227 rfl) (by decide) ?_
          refine lv_iadd hx hb (xb_d D_Law_law 228 rfl) ?_
          obtain ⟨hi82, hw⟩ := hw
          refine va_sld hx hb hX hbl hbA hS hi82 (xb_d D_Law_law 229 rfl) ?_
          obtain ⟨hk83, hw⟩ := hw
          refine xb_call (D := D) (A := A) (σ := σ) (h := h80) (d := 7) (mc := bc81) (ms := bs81) (maxL := 4) (rest := []) (av := [.ref x2, .int (xs (Int32.toNatClampNeg (x4 + 1)))]) (fun T hT X => by obtain ⟨cb9, ra9, rb9, rc9⟩ := xb_recv (ci := 8) hR rfl hk83 (by decide); exact xt_invV X hx hown (hts _ m_4477548c) (hts _ m_033ea03f) (hts _ m_204d37c5) (xt_sigOf (hts _ m_36d1dd5e)) nm_M_find (by rw [hT]; exact ra9) rb9 rc9 (g := F0 m 458 ls [.int (xs (Int32.toNatClampNeg (x4 + 1))), .ref x2]) rfl (argsL := [.int (xs (Int32.toNatClampNeg (x4 + 1)))]) (rest := []) rfl rfl (by rw [hb]; exact (xb_d D_Law_law 230 rfl))) (ok_M_find l hfl D A σ x2 (xs (Int32.toNatClampNeg (x4 + 1))) h80 bc81 bs81 _ hw) (hml.trans hl.1.symm) (by rw [hb]; exact (xb_d D_Law_law 230 rfl)) (Nat.le_of_ble_eq_true rfl) (Nat.le_of_ble_eq_true rfl) (Nat.le_of_ble_eq_true rfl) (show (k + kk81) + bc81 ≤ MC by omega) (show (n + nn81) + bs81 ≤ MS by omega) (xt_w1 hB.1 m_36d1dd5e) (xt_cdOf hB.1 m_36d1dd5e) (hts _ m_d5ed7bed) hB hR hS hA (fun vv h84 bc85 bs85 kk85 nn85 H locs hk85 hn85 hq hEh84 hR hS => ?_) (fun XX ax h84 bc85 bs85 kk85 nn85 H locs hk85 hn85 hq hEh84 hex hR hS => ?_)
          · obtain ⟨r85, rfl, hw⟩ := hq
            have hw := hw hEh84
            have hE := hE.tr hEh84
            refine W.eq (g2 := F0 m 461 ls [.int r85]) rfl ?_
            refine lv_istore hx hb (xb_d D_Law_law 231 rfl) hl (by decide) rfl (fun ls hl => ?_)
            have hl : lv_has ls 8 [(6, .int r85), (5, .int r81), (0, .ref x0), (1, .ref x1), (2, .ref x2), (3, .ref x3), (4, .int x4)] := hl
            refine lv_goto (tgt := 974) hx hb (xb_d D_Law_law 232 rfl) rfl ?_
            exact am_Law_law_L974 l hfl D A σ L xs MC MS h0 Qr (w2_Law_law_L23 σ L xs Qr n9) ih x0 x1 x2 x3 x4 h84 bc85 bs85 hw p e s m args below meth c hC hX9 H locs ls ((k + kk81) + kk85) ((n + nn81) + nn85) hE (lv_sub hl [2, 3, 4, 5, 6] rfl) hR hS (by omega) (by omega)
          · exact False.elim hq
        · exact False.elim hq
      have hw := hw.2
      by_cases hc86 : ((xs (Int32.toNatClampNeg x4)) &&& 31) = 9
      · have hw := hw.1 hc86
        refine xt_numi hc86 ?_
        refine lv_tableIn (off := 426) (tgt := 466) hx hb (xb_d D_Law_law 24 rfl) (by decide +kernel) (by decide +kernel) (by decide +kernel) (by decide) ?_
        refine lv_aload_n hx hb (xb_d D_Law_law 233 rfl) rfl (lv_at hl 1 rfl) ?_
        refine lv_aload_n hx hb (xb_d D_Law_law 234 rfl) rfl (lv_at hl 0 rfl) ?_
        refine lv_iload hx hb (xb_d D_Law_law 235 rfl) (lv_at hl 4 rfl) ?_
        refine lv_iconst (v := 1) hx hb (xb_d D_Law_law 236 rfl) (by decide) ?_
        refine lv_iadd hx hb (xb_d D_Law_law 237 rfl) ?_
        obtain ⟨hi87, hw⟩ := hw
        refine va_sld hx hb hX hbl hbA hS hi87 (xb_d D_Law_law 238 rfl) ?_
        refine lv_aload_n hx hb (xb_d D_Law_law 239 rfl) rfl (lv_at hl 0 rfl) ?_
        refine lv_iload hx hb (xb_d D_Law_law 240 rfl) (lv_at hl 4 rfl) ?_
        refine lv_iconst (v := 2) hx hb (xb_d D_Law_law 241 rfl) (by decide) ?_
        refine lv_iadd hx hb (xb_d D_Law_law 242 rfl) ?_
        obtain ⟨hi88, hw⟩ := hw
        refine va_sld hx hb hX hbl hbA hS hi88 (xb_d D_Law_law 243 rfl) ?_
        refine lv_aload_n hx hb (xb_d D_Law_law 244 rfl) rfl (lv_at hl 0 rfl) ?_
        refine lv_iload hx hb (xb_d D_Law_law 245 rfl) (lv_at hl 4 rfl) ?_
        refine lv_iconst (v := 3) hx hb (xb_d D_Law_law 246 rfl) (by decide) ?_
        refine lv_iadd hx hb (xb_d D_Law_law 247 rfl) ?_
        obtain ⟨hi89, hw⟩ := hw
        refine va_sld hx hb hX hbl hbA hS hi89 (xb_d D_Law_law 248 rfl) ?_
        refine lv_aload_n hx hb (xb_d D_Law_law 249 rfl) rfl (lv_at hl 3 rfl) ?_
        refine xb_call (D := D) (A := A) (σ := σ) (h := h) (d := 5) (mc := bc) (ms := bs) (maxL := 6) (rest := []) (av := [.ref x1, .int (xs (Int32.toNatClampNeg (x4 + 1))), .int (xs (Int32.toNatClampNeg (x4 + 2))), .int (xs (Int32.toNatClampNeg (x4 + 3))), .ref x3]) (fun T hT X => xt_invS X hx hown (hts _ m_70297649) (hts _ m_a4d922a3) (hts _ m_6445b362) (xt_sgSH (hts _ m_29cb7ca8)).1 (xt_sgSH (hts _ m_29cb7ca8)).2 nm_Law_exported (g := F0 m 486 ls [.ref x3, .int (xs (Int32.toNatClampNeg (x4 + 3))), .int (xs (Int32.toNatClampNeg (x4 + 2))), .int (xs (Int32.toNatClampNeg (x4 + 1))), .ref x1]) rfl (argsL := [.ref x1, .int (xs (Int32.toNatClampNeg (x4 + 1))), .int (xs (Int32.toNatClampNeg (x4 + 2))), .int (xs (Int32.toNatClampNeg (x4 + 3))), .ref x3]) (rest := []) rfl rfl (by rw [hb]; exact (xb_d D_Law_law 250 rfl))) (ok_Law_exported l hfl D A σ x1 (xs (Int32.toNatClampNeg (x4 + 1))) (xs (Int32.toNatClampNeg (x4 + 2))) (xs (Int32.toNatClampNeg (x4 + 3))) x3 h bc bs _ hw) (hml.trans hl.1.symm) (by rw [hb]; exact (xb_d D_Law_law 250 rfl)) (Nat.le_of_ble_eq_true rfl) (Nat.le_of_ble_eq_true rfl) (Nat.le_of_ble_eq_true rfl) (show k + bc ≤ MC by omega) (show n + bs ≤ MS by omega) (xt_w1 hB.1 m_29cb7ca8) (xt_cdOfH hB.1 m_29cb7ca8) (hts _ m_6445b362) hB hR hS hA (fun vv h90 bc91 bs91 kk91 nn91 H locs hk91 hn91 hq hEh90 hR hS => ?_) (fun XX ax h90 bc91 bs91 kk91 nn91 H locs hk91 hn91 hq hEh90 hex hR hS => ?_)
        · obtain ⟨r91, rfl, hw⟩ := hq
          have hw := hw hEh90
          have hE := hE.tr hEh90
          refine W.eq (g2 := F0 m 489 ls [.int r91]) rfl ?_
          refine lv_istore hx hb (xb_d D_Law_law 251 rfl) hl (by decide) rfl (fun ls hl => ?_)
          have hl : lv_has ls 8 [(5, .int r91), (0, .ref x0), (1, .ref x1), (2, .ref x2), (3, .ref x3), (4, .int x4)] := hl
          refine lv_aload_n hx hb (xb_d D_Law_law 252 rfl) rfl (lv_at hl 3 rfl) ?_
          refine lv_aload_n hx hb (xb_d D_Law_law 253 rfl) rfl (lv_at hl 1 rfl) ?_
          refine lv_iload hx hb (xb_d D_Law_law 254 rfl) (lv_at hl 5 rfl) ?_
          refine lv_iconst (v := 1) hx hb (xb_d D_Law_law 255 rfl) (by decide) ?_
          refine lv_iadd hx hb (xb_d D_Law_law 256 rfl) ?_
          obtain ⟨hi92, hw⟩ := hw
          refine va_sld hx hb hX hbl hbA hS hi92 (xb_d D_Law_law 257 rfl) ?_
          refine lv_aload_n hx hb (xb_d D_Law_law 258 rfl) rfl (lv_at hl 1 rfl) ?_
          refine lv_iload hx hb (xb_d D_Law_law 259 rfl) (lv_at hl 5 rfl) ?_
          refine lv_iconst (v := 2) hx hb (xb_d D_Law_law 260 rfl) (by decide) ?_
          refine lv_iadd hx hb (xb_d D_Law_law 261 rfl) ?_
          obtain ⟨hi93, hw⟩ := hw
          refine va_sld hx hb hX hbl hbA hS hi93 (xb_d D_Law_law 262 rfl) ?_
          refine lv_aload_n hx hb (xb_d D_Law_law 263 rfl) rfl (lv_at hl 1 rfl) ?_
          refine lv_iload hx hb (xb_d D_Law_law 264 rfl) (lv_at hl 5 rfl) ?_
          refine lv_iconst (v := 3) hx hb (xb_d D_Law_law 265 rfl) (by decide) ?_
          refine lv_iadd hx hb (xb_d D_Law_law 266 rfl) ?_
          obtain ⟨hi94, hw⟩ := hw
          refine va_sld hx hb hX hbl hbA hS hi94 (xb_d D_Law_law 267 rfl) ?_
          obtain ⟨hk95, hw⟩ := hw
          refine xb_call0 (D := D) (A := A) (σ := σ) (h := h90) (d := 10) (maxL := 8) (rest := []) (av := [.ref x2, .int (xs (Int32.toNatClampNeg (x4 + 1))), .int (xs (Int32.toNatClampNeg (x4 + 2))), .int (xs (Int32.toNatClampNeg (x4 + 3)))]) (fun T hT X => by obtain ⟨cb9, ra9, rb9, rc9⟩ := xb_recv (ci := 8) hR rfl hk95 (by decide); exact xt_invV X hx hown (hts _ m_27b30da5) (hts _ m_d9b6b786) (hts _ m_68b1a8cd) (xt_sigOf (hts _ m_e845ad78)) nm_M_exported (by rw [hT]; exact ra9) rb9 rc9 (g := F0 m 510 ls [.int (xs (Int32.toNatClampNeg (x4 + 3))), .int (xs (Int32.toNatClampNeg (x4 + 2))), .int (xs (Int32.toNatClampNeg (x4 + 1))), .ref x2]) rfl (argsL := [.int (xs (Int32.toNatClampNeg (x4 + 1))), .int (xs (Int32.toNatClampNeg (x4 + 2))), .int (xs (Int32.toNatClampNeg (x4 + 3)))]) (rest := []) rfl rfl (by rw [hb]; exact (xb_d D_Law_law 268 rfl))) (ok_M_exported l hfl D A σ x2 (xs (Int32.toNatClampNeg (x4 + 1))) (xs (Int32.toNatClampNeg (x4 + 2))) (xs (Int32.toNatClampNeg (x4 + 3))) h90 _ hw) (hml.trans hl.1.symm) (by rw [hb]; exact (xb_d D_Law_law 268 rfl)) (Nat.le_of_ble_eq_true rfl) (Nat.le_of_ble_eq_true rfl) (Nat.le_of_ble_eq_true rfl) (show (k + kk91) ≤ MC by omega) (show (n + nn91) ≤ MS by omega) (xt_w1 hB.1 m_e845ad78) (xt_cdOf hB.1 m_e845ad78) (hts _ m_d5ed7bed) hB hR hS hA (fun vv h96 H locs hq hEh96 hR hS => ?_)
          obtain ⟨r97, rfl, hw⟩ := hq
          have hw := hw hEh96
          have hE := hE.tr hEh96
          refine W.eq (g2 := F0 m 513 ls [.int r97]) rfl ?_
          refine lv_istore hx hb (xb_d D_Law_law 269 rfl) hl (by decide) rfl (fun ls hl => ?_)
          have hl : lv_has ls 8 [(6, .int r97), (5, .int r91), (0, .ref x0), (1, .ref x1), (2, .ref x2), (3, .ref x3), (4, .int x4)] := hl
          refine lv_goto (tgt := 974) hx hb (xb_d D_Law_law 270 rfl) rfl ?_
          exact am_Law_law_L974 l hfl D A σ L xs MC MS h0 Qr (w2_Law_law_L23 σ L xs Qr n9) ih x0 x1 x2 x3 x4 h96 bc91 bs91 hw p e s m args below meth c hC hX9 H locs ls (k + kk91) (n + nn91) hE (lv_sub hl [2, 3, 4, 5, 6] rfl) hR hS (by omega) (by omega)
        · exact False.elim hq
      have hw := hw.2
      by_cases hc98 : ((xs (Int32.toNatClampNeg x4)) &&& 31) = 10
      · have hw := hw.1 hc98
        refine xt_numi hc98 ?_
        refine lv_tableIn (off := 478) (tgt := 518) hx hb (xb_d D_Law_law 24 rfl) (by decide +kernel) (by decide +kernel) (by decide +kernel) (by decide) ?_
        refine lv_aload_n hx hb (xb_d D_Law_law 271 rfl) rfl (lv_at hl 1 rfl) ?_
        refine lv_aload_n hx hb (xb_d D_Law_law 272 rfl) rfl (lv_at hl 0 rfl) ?_
        refine lv_iload hx hb (xb_d D_Law_law 273 rfl) (lv_at hl 4 rfl) ?_
        refine lv_iconst (v := 1) hx hb (xb_d D_Law_law 274 rfl) (by decide) ?_
        refine lv_iadd hx hb (xb_d D_Law_law 275 rfl) ?_
        obtain ⟨hi99, hw⟩ := hw
        refine va_sld hx hb hX hbl hbA hS hi99 (xb_d D_Law_law 276 rfl) ?_
        refine lv_i2l hx hb (xb_d D_Law_law 277 rfl) rfl ?_
        refine lv_bipush (v := 32) hx hb (xb_d D_Law_law 278 rfl) (by decide) ?_
        refine lv_lshl (v := (xb_lshl (Int32.toInt64 (xs (Int32.toNatClampNeg (x4 + 1)))) 32)) hx hb (xb_d D_Law_law 279 rfl) rfl ?_
        refine lv_aload_n hx hb (xb_d D_Law_law 280 rfl) rfl (lv_at hl 0 rfl) ?_
        refine lv_iload hx hb (xb_d D_Law_law 281 rfl) (lv_at hl 4 rfl) ?_
        refine lv_iconst (v := 2) hx hb (xb_d D_Law_law 282 rfl) (by decide) ?_
        refine lv_iadd hx hb (xb_d D_Law_law 283 rfl) ?_
        obtain ⟨hi100, hw⟩ := hw
        refine va_sld hx hb hX hbl hbA hS hi100 (xb_d D_Law_law 284 rfl) ?_
        refine lv_i2l hx hb (xb_d D_Law_law 285 rfl) rfl ?_
        refine lv_ldc2 (v := 4294967295) hx hb hown (hts _ m_37a14b9c) (xb_d D_Law_law 286 rfl) ?_
        refine lv_land hx hb (xb_d D_Law_law 287 rfl) ?_
        refine lv_lor hx hb (xb_d D_Law_law 288 rfl) ?_
        refine lv_aload_n hx hb (xb_d D_Law_law 289 rfl) rfl (lv_at hl 3 rfl) ?_
        refine xb_call (D := D) (A := A) (σ := σ) (h := h) (d := 6) (mc := bc) (ms := bs) (maxL := 5) (rest := []) (av := [.ref x1, .long ((xb_lshl (Int32.toInt64 (xs (Int32.toNatClampNeg (x4 + 1)))) 32) ||| ((Int32.toInt64 (xs (Int32.toNatClampNeg (x4 + 2)))) &&& 4294967295)), .ref x3]) (fun T hT X => xt_invS X hx hown (hts _ m_f369066f) (hts _ m_405e2d6b) (hts _ m_6445b362) (xt_sgSH (hts _ m_80f64de9)).1 (xt_sgSH (hts _ m_80f64de9)).2 nm_Law_push (g := F0 m 542 ls [.ref x3, .long ((xb_lshl (Int32.toInt64 (xs (Int32.toNatClampNeg (x4 + 1)))) 32) ||| ((Int32.toInt64 (xs (Int32.toNatClampNeg (x4 + 2)))) &&& 4294967295)), .ref x1]) rfl (argsL := [.ref x1, .long ((xb_lshl (Int32.toInt64 (xs (Int32.toNatClampNeg (x4 + 1)))) 32) ||| ((Int32.toInt64 (xs (Int32.toNatClampNeg (x4 + 2)))) &&& 4294967295)), .ref x3]) (rest := []) rfl rfl (by rw [hb]; exact (xb_d D_Law_law 290 rfl))) (ok_Law_push l hfl D A σ x1 ((xb_lshl (Int32.toInt64 (xs (Int32.toNatClampNeg (x4 + 1)))) 32) ||| ((Int32.toInt64 (xs (Int32.toNatClampNeg (x4 + 2)))) &&& 4294967295)) x3 h bc bs _ hw) (hml.trans hl.1.symm) (by rw [hb]; exact (xb_d D_Law_law 290 rfl)) (Nat.le_of_ble_eq_true rfl) (Nat.le_of_ble_eq_true rfl) (Nat.le_of_ble_eq_true rfl) (show k + bc ≤ MC by omega) (show n + bs ≤ MS by omega) (xt_w1 hB.1 m_80f64de9) (xt_cdOfH hB.1 m_80f64de9) (hts _ m_6445b362) hB hR hS hA (fun vv h101 bc102 bs102 kk102 nn102 H locs hk102 hn102 hq hEh101 hR hS => ?_) (fun XX ax h101 bc102 bs102 kk102 nn102 H locs hk102 hn102 hq hEh101 hex hR hS => ?_)
        · obtain ⟨r102, rfl, hw⟩ := hq
          have hw := hw hEh101
          have hE := hE.tr hEh101
          refine W.eq (g2 := F0 m 545 ls [.int r102]) rfl ?_
          refine lv_istore hx hb (xb_d D_Law_law 291 rfl) hl (by decide) rfl (fun ls hl => ?_)
          have hl : lv_has ls 8 [(5, .int r102), (0, .ref x0), (1, .ref x1), (2, .ref x2), (3, .ref x3), (4, .int x4)] := hl
          refine lv_aload_n hx hb (xb_d D_Law_law 292 rfl) rfl (lv_at hl 3 rfl) ?_
          refine lv_aload_n hx hb (xb_d D_Law_law 293 rfl) rfl (lv_at hl 1 rfl) ?_
          refine lv_iload hx hb (xb_d D_Law_law 294 rfl) (lv_at hl 5 rfl) ?_
          refine lv_iconst (v := 1) hx hb (xb_d D_Law_law 295 rfl) (by decide) ?_
          refine lv_iadd hx hb (xb_d D_Law_law 296 rfl) ?_
          obtain ⟨hi103, hw⟩ := hw
          refine va_sld hx hb hX hbl hbA hS hi103 (xb_d D_Law_law 297 rfl) ?_
          refine lv_i2l hx hb (xb_d D_Law_law 298 rfl) rfl ?_
          refine lv_bipush (v := 32) hx hb (xb_d D_Law_law 299 rfl) (by decide) ?_
          refine lv_lshl (v := (xb_lshl (Int32.toInt64 (xs (Int32.toNatClampNeg (x4 + 1)))) 32)) hx hb (xb_d D_Law_law 300 rfl) rfl ?_
          refine lv_aload_n hx hb (xb_d D_Law_law 301 rfl) rfl (lv_at hl 1 rfl) ?_
          refine lv_iload hx hb (xb_d D_Law_law 302 rfl) (lv_at hl 5 rfl) ?_
          refine lv_iconst (v := 2) hx hb (xb_d D_Law_law 303 rfl) (by decide) ?_
          refine lv_iadd hx hb (xb_d D_Law_law 304 rfl) ?_
          obtain ⟨hi104, hw⟩ := hw
          refine va_sld hx hb hX hbl hbA hS hi104 (xb_d D_Law_law 305 rfl) ?_
          refine lv_i2l hx hb (xb_d D_Law_law 306 rfl) rfl ?_
          refine lv_ldc2 (v := 4294967295) hx hb hown (hts _ m_37a14b9c) (xb_d D_Law_law 307 rfl) ?_
          refine lv_land hx hb (xb_d D_Law_law 308 rfl) ?_
          refine lv_lor hx hb (xb_d D_Law_law 309 rfl) ?_
          obtain ⟨hk105, hw⟩ := hw
          refine xb_call0 (D := D) (A := A) (σ := σ) (h := h101) (d := 2) (maxL := 3) (rest := []) (av := [.ref x2, .long ((xb_lshl (Int32.toInt64 (xs (Int32.toNatClampNeg (x4 + 1)))) 32) ||| ((Int32.toInt64 (xs (Int32.toNatClampNeg (x4 + 2)))) &&& 4294967295))]) (fun T hT X => by obtain ⟨cb9, ra9, rb9, rc9⟩ := xb_recv (ci := 8) hR rfl hk105 (by decide); exact xt_invV X hx hown (hts _ m_f8abb4c8) (hts _ m_e2ffa201) (hts _ m_41a99f61) (xt_sigOf (hts _ m_ebcc62d2)) nm_M_push (by rw [hT]; exact ra9) rb9 rc9 (g := F0 m 570 ls [.long ((xb_lshl (Int32.toInt64 (xs (Int32.toNatClampNeg (x4 + 1)))) 32) ||| ((Int32.toInt64 (xs (Int32.toNatClampNeg (x4 + 2)))) &&& 4294967295)), .ref x2]) rfl (argsL := [.long ((xb_lshl (Int32.toInt64 (xs (Int32.toNatClampNeg (x4 + 1)))) 32) ||| ((Int32.toInt64 (xs (Int32.toNatClampNeg (x4 + 2)))) &&& 4294967295))]) (rest := []) rfl rfl (by rw [hb]; exact (xb_d D_Law_law 310 rfl))) (ok_M_push l hfl D A σ x2 ((xb_lshl (Int32.toInt64 (xs (Int32.toNatClampNeg (x4 + 1)))) 32) ||| ((Int32.toInt64 (xs (Int32.toNatClampNeg (x4 + 2)))) &&& 4294967295)) h101 _ hw) (hml.trans hl.1.symm) (by rw [hb]; exact (xb_d D_Law_law 310 rfl)) (Nat.le_of_ble_eq_true rfl) (Nat.le_of_ble_eq_true rfl) (Nat.le_of_ble_eq_true rfl) (show (k + kk102) ≤ MC by omega) (show (n + nn102) ≤ MS by omega) (xt_w1 hB.1 m_ebcc62d2) (xt_cdOf hB.1 m_ebcc62d2) (hts _ m_d5ed7bed) hB hR hS hA (fun vv h106 H locs hq hEh106 hR hS => ?_)
          obtain ⟨r107, rfl, hw⟩ := hq
          have hw := hw hEh106
          have hE := hE.tr hEh106
          refine W.eq (g2 := F0 m 573 ls [.int r107]) rfl ?_
          refine lv_istore hx hb (xb_d D_Law_law 311 rfl) hl (by decide) rfl (fun ls hl => ?_)
          have hl : lv_has ls 8 [(6, .int r107), (5, .int r102), (0, .ref x0), (1, .ref x1), (2, .ref x2), (3, .ref x3), (4, .int x4)] := hl
          refine lv_goto (tgt := 974) hx hb (xb_d D_Law_law 312 rfl) rfl ?_
          exact am_Law_law_L974 l hfl D A σ L xs MC MS h0 Qr (w2_Law_law_L23 σ L xs Qr n9) ih x0 x1 x2 x3 x4 h106 bc102 bs102 hw p e s m args below meth c hC hX9 H locs ls (k + kk102) (n + nn102) hE (lv_sub hl [2, 3, 4, 5, 6] rfl) hR hS (by omega) (by omega)
        · exact False.elim hq
      have hw := hw.2
      by_cases hc108 : ((xs (Int32.toNatClampNeg x4)) &&& 31) = 11
      · have hw := hw.1 hc108
        refine xt_numi hc108 ?_
        refine lv_tableIn (off := 538) (tgt := 578) hx hb (xb_d D_Law_law 24 rfl) (by decide +kernel) (by decide +kernel) (by decide +kernel) (by decide) ?_
        refine lv_aload_n hx hb (xb_d D_Law_law 313 rfl) rfl (lv_at hl 1 rfl) ?_
        refine lv_aload_n hx hb (xb_d D_Law_law 314 rfl) rfl (lv_at hl 0 rfl) ?_
        refine lv_iload hx hb (xb_d D_Law_law 315 rfl) (lv_at hl 4 rfl) ?_
        refine lv_iconst (v := 1) hx hb (xb_d D_Law_law 316 rfl) (by decide) ?_
        refine lv_iadd hx hb (xb_d D_Law_law 317 rfl) ?_
        obtain ⟨hi109, hw⟩ := hw
        refine va_sld hx hb hX hbl hbA hS hi109 (xb_d D_Law_law 318 rfl) ?_
        refine lv_aload_n hx hb (xb_d D_Law_law 319 rfl) rfl (lv_at hl 0 rfl) ?_
        refine lv_iload hx hb (xb_d D_Law_law 320 rfl) (lv_at hl 4 rfl) ?_
        refine lv_iconst (v := 2) hx hb (xb_d D_Law_law 321 rfl) (by decide) ?_
        refine lv_iadd hx hb (xb_d D_Law_law 322 rfl) ?_
        obtain ⟨hi110, hw⟩ := hw
        refine va_sld hx hb hX hbl hbA hS hi110 (xb_d D_Law_law 323 rfl) ?_
        refine xb_call (D := D) (A := A) (σ := σ) (h := h) (d := 6) (mc := bc) (ms := bs) (maxL := 4) (rest := []) (av := [.ref x1, .int (xs (Int32.toNatClampNeg (x4 + 1))), .int (xs (Int32.toNatClampNeg (x4 + 2)))]) (fun T hT X => xt_invS X hx hown (hts _ m_7ff4281b) (hts _ m_e3f01959) (hts _ m_6445b362) (xt_sgSH (hts _ m_a5134c6d)).1 (xt_sgSH (hts _ m_a5134c6d)).2 nm_Law_invoke (g := F0 m 591 ls [.int (xs (Int32.toNatClampNeg (x4 + 2))), .int (xs (Int32.toNatClampNeg (x4 + 1))), .ref x1]) rfl (argsL := [.ref x1, .int (xs (Int32.toNatClampNeg (x4 + 1))), .int (xs (Int32.toNatClampNeg (x4 + 2)))]) (rest := []) rfl rfl (by rw [hb]; exact (xb_d D_Law_law 324 rfl))) (ok_Law_invoke l hfl D A σ x1 (xs (Int32.toNatClampNeg (x4 + 1))) (xs (Int32.toNatClampNeg (x4 + 2))) h bc bs _ hw) (hml.trans hl.1.symm) (by rw [hb]; exact (xb_d D_Law_law 324 rfl)) (Nat.le_of_ble_eq_true rfl) (Nat.le_of_ble_eq_true rfl) (Nat.le_of_ble_eq_true rfl) (show k + bc ≤ MC by omega) (show n + bs ≤ MS by omega) (xt_w1 hB.1 m_a5134c6d) (xt_cdOfH hB.1 m_a5134c6d) (hts _ m_6445b362) hB hR hS hA (fun vv h111 bc112 bs112 kk112 nn112 H locs hk112 hn112 hq hEh111 hR hS => ?_) (fun XX ax h111 bc112 bs112 kk112 nn112 H locs hk112 hn112 hq hEh111 hex hR hS => ?_)
        · obtain ⟨r112, rfl, hw⟩ := hq
          have hw := hw hEh111
          have hE := hE.tr hEh111
          refine W.eq (g2 := F0 m 594 ls [.int r112]) rfl ?_
          refine lv_istore hx hb (xb_d D_Law_law 325 rfl) hl (by decide) rfl (fun ls hl => ?_)
          have hl : lv_has ls 8 [(5, .int r112), (0, .ref x0), (1, .ref x1), (2, .ref x2), (3, .ref x3), (4, .int x4)] := hl
          refine lv_aload_n hx hb (xb_d D_Law_law 326 rfl) rfl (lv_at hl 3 rfl) ?_
          refine lv_aload_n hx hb (xb_d D_Law_law 327 rfl) rfl (lv_at hl 1 rfl) ?_
          refine lv_iload hx hb (xb_d D_Law_law 328 rfl) (lv_at hl 5 rfl) ?_
          refine lv_iconst (v := 1) hx hb (xb_d D_Law_law 329 rfl) (by decide) ?_
          refine lv_iadd hx hb (xb_d D_Law_law 330 rfl) ?_
          obtain ⟨hi113, hw⟩ := hw
          refine va_sld hx hb hX hbl hbA hS hi113 (xb_d D_Law_law 331 rfl) ?_
          refine lv_aload_n hx hb (xb_d D_Law_law 332 rfl) rfl (lv_at hl 1 rfl) ?_
          refine lv_iload hx hb (xb_d D_Law_law 333 rfl) (lv_at hl 5 rfl) ?_
          refine lv_iconst (v := 2) hx hb (xb_d D_Law_law 334 rfl) (by decide) ?_
          refine lv_iadd hx hb (xb_d D_Law_law 335 rfl) ?_
          obtain ⟨hi114, hw⟩ := hw
          refine va_sld hx hb hX hbl hbA hS hi114 (xb_d D_Law_law 336 rfl) ?_
          obtain ⟨hk115, hw⟩ := hw
          refine xb_call0 (D := D) (A := A) (σ := σ) (h := h111) (d := 10) (maxL := 7) (rest := []) (av := [.ref x2, .int (xs (Int32.toNatClampNeg (x4 + 1))), .int (xs (Int32.toNatClampNeg (x4 + 2)))]) (fun T hT X => by obtain ⟨cb9, ra9, rb9, rc9⟩ := xb_recv (ci := 8) hR rfl hk115 (by decide); exact xt_invV X hx hown (hts _ m_52dc5271) (hts _ m_acb842fe) (hts _ m_8f9d9e95) (xt_sigOf (hts _ m_da9af6b0)) nm_M_invoke (by rw [hT]; exact ra9) rb9 rc9 (g := F0 m 609 ls [.int (xs (Int32.toNatClampNeg (x4 + 2))), .int (xs (Int32.toNatClampNeg (x4 + 1))), .ref x2]) rfl (argsL := [.int (xs (Int32.toNatClampNeg (x4 + 1))), .int (xs (Int32.toNatClampNeg (x4 + 2)))]) (rest := []) rfl rfl (by rw [hb]; exact (xb_d D_Law_law 337 rfl))) (ok_M_invoke l hfl D A σ x2 (xs (Int32.toNatClampNeg (x4 + 1))) (xs (Int32.toNatClampNeg (x4 + 2))) h111 _ hw) (hml.trans hl.1.symm) (by rw [hb]; exact (xb_d D_Law_law 337 rfl)) (Nat.le_of_ble_eq_true rfl) (Nat.le_of_ble_eq_true rfl) (Nat.le_of_ble_eq_true rfl) (show (k + kk112) ≤ MC by omega) (show (n + nn112) ≤ MS by omega) (xt_w1 hB.1 m_da9af6b0) (xt_cdOf hB.1 m_da9af6b0) (hts _ m_d5ed7bed) hB hR hS hA (fun vv h116 H locs hq hEh116 hR hS => ?_)
          obtain ⟨rfl, hw⟩ := hq
          have hw := hw hEh116
          have hE := hE.tr hEh116
          refine W.eq (g2 := F0 m 612 ls []) rfl ?_
          refine lv_goto (tgt := 974) hx hb (xb_d D_Law_law 338 rfl) rfl ?_
          exact am_Law_law_L974 l hfl D A σ L xs MC MS h0 Qr (w2_Law_law_L23 σ L xs Qr n9) ih x0 x1 x2 x3 x4 h116 bc112 bs112 hw p e s m args below meth c hC hX9 H locs ls (k + kk112) (n + nn112) hE (lv_sub hl [1, 2, 3, 4, 5] rfl) hR hS (by omega) (by omega)
        · exact False.elim hq
      have hw := hw.2
      by_cases hc118 : ((xs (Int32.toNatClampNeg x4)) &&& 31) = 12
      · have hw := hw.1 hc118
        refine xt_numi hc118 ?_
        refine lv_tableIn (off := 575) (tgt := 615) hx hb (xb_d D_Law_law 24 rfl) (by decide +kernel) (by decide +kernel) (by decide +kernel) (by decide) ?_
        refine lv_aload_n hx hb (xb_d D_Law_law 339 rfl) rfl (lv_at hl 1 rfl) ?_
        refine lv_aload_n hx hb (xb_d D_Law_law 340 rfl) rfl (lv_at hl 0 rfl) ?_
        refine lv_iload hx hb (xb_d D_Law_law 341 rfl) (lv_at hl 4 rfl) ?_
        refine lv_iconst (v := 1) hx hb (xb_d D_Law_law 342 rfl) (by decide) ?_
        refine lv_iadd hx hb (xb_d D_Law_law 343 rfl) ?_
        obtain ⟨hi119, hw⟩ := hw
        refine va_sld hx hb hX hbl hbA hS hi119 (xb_d D_Law_law 344 rfl) ?_
        refine lv_aload_n hx hb (xb_d D_Law_law 345 rfl) rfl (lv_at hl 3 rfl) ?_
        refine xb_call (D := D) (A := A) (σ := σ) (h := h) (d := 11) (mc := bc) (ms := bs) (maxL := 4) (rest := []) (av := [.ref x1, .int (xs (Int32.toNatClampNeg (x4 + 1))), .ref x3]) (fun T hT X => xt_invS X hx hown (hts _ m_bee71a0c) (hts _ m_5d8bd3a7) (hts _ m_6445b362) (xt_sgSH (hts _ m_3ea92327)).1 (xt_sgSH (hts _ m_3ea92327)).2 nm_Law_run (g := F0 m 623 ls [.ref x3, .int (xs (Int32.toNatClampNeg (x4 + 1))), .ref x1]) rfl (argsL := [.ref x1, .int (xs (Int32.toNatClampNeg (x4 + 1))), .ref x3]) (rest := []) rfl rfl (by rw [hb]; exact (xb_d D_Law_law 346 rfl))) (ok_Law_run l hfl D A σ x1 (xs (Int32.toNatClampNeg (x4 + 1))) x3 h bc bs _ hw) (hml.trans hl.1.symm) (by rw [hb]; exact (xb_d D_Law_law 346 rfl)) (Nat.le_of_ble_eq_true rfl) (Nat.le_of_ble_eq_true rfl) (Nat.le_of_ble_eq_true rfl) (show k + bc ≤ MC by omega) (show n + bs ≤ MS by omega) (xt_w1 hB.1 m_3ea92327) (xt_cdOfH hB.1 m_3ea92327) (hts _ m_6445b362) hB hR hS hA (fun vv h120 bc121 bs121 kk121 nn121 H locs hk121 hn121 hq hEh120 hR hS => ?_) (fun XX ax h120 bc121 bs121 kk121 nn121 H locs hk121 hn121 hq hEh120 hex hR hS => ?_)
        · obtain ⟨r121, rfl, hw⟩ := hq
          have hw := hw hEh120
          have hE := hE.tr hEh120
          refine W.eq (g2 := F0 m 626 ls [.int r121]) rfl ?_
          refine lv_istore hx hb (xb_d D_Law_law 347 rfl) hl (by decide) rfl (fun ls hl => ?_)
          have hl : lv_has ls 8 [(5, .int r121), (0, .ref x0), (1, .ref x1), (2, .ref x2), (3, .ref x3), (4, .int x4)] := hl
          refine lv_aload_n hx hb (xb_d D_Law_law 348 rfl) rfl (lv_at hl 3 rfl) ?_
          refine lv_aload_n hx hb (xb_d D_Law_law 349 rfl) rfl (lv_at hl 1 rfl) ?_
          refine lv_iload hx hb (xb_d D_Law_law 350 rfl) (lv_at hl 5 rfl) ?_
          refine lv_iconst (v := 1) hx hb (xb_d D_Law_law 351 rfl) (by decide) ?_
          refine lv_iadd hx hb (xb_d D_Law_law 352 rfl) ?_
          obtain ⟨hi122, hw⟩ := hw
          refine va_sld hx hb hX hbl hbA hS hi122 (xb_d D_Law_law 353 rfl) ?_
          obtain ⟨hk123, hw⟩ := hw
          refine xb_call0 (D := D) (A := A) (σ := σ) (h := h120) (d := 13) (maxL := 6) (rest := []) (av := [.ref x2, .int (xs (Int32.toNatClampNeg (x4 + 1)))]) (fun T hT X => by obtain ⟨cb9, ra9, rb9, rc9⟩ := xb_recv (ci := 8) hR rfl hk123 (by decide); exact xt_invV X hx hown (hts _ m_c3209139) (hts _ m_7da41847) (hts _ m_15a64045) (xt_sigOf (hts _ m_5741cf7c)) nm_M_run (by rw [hT]; exact ra9) rb9 rc9 (g := F0 m 635 ls [.int (xs (Int32.toNatClampNeg (x4 + 1))), .ref x2]) rfl (argsL := [.int (xs (Int32.toNatClampNeg (x4 + 1)))]) (rest := []) rfl rfl (by rw [hb]; exact (xb_d D_Law_law 354 rfl))) (ok_M_run l hfl D A σ x2 (xs (Int32.toNatClampNeg (x4 + 1))) h120 _ hw) (hml.trans hl.1.symm) (by rw [hb]; exact (xb_d D_Law_law 354 rfl)) (Nat.le_of_ble_eq_true rfl) (Nat.le_of_ble_eq_true rfl) (Nat.le_of_ble_eq_true rfl) (show (k + kk121) ≤ MC by omega) (show (n + nn121) ≤ MS by omega) (xt_w1 hB.1 m_5741cf7c) (xt_cdOf hB.1 m_5741cf7c) (hts _ m_d5ed7bed) hB hR hS hA (fun vv h124 H locs hq hEh124 hR hS => ?_)
          obtain ⟨r125, rfl, hw⟩ := hq
          have hw := hw hEh124
          have hE := hE.tr hEh124
          refine W.eq (g2 := F0 m 638 ls [.int r125]) rfl ?_
          refine lv_istore hx hb (xb_d D_Law_law 355 rfl) hl (by decide) rfl (fun ls hl => ?_)
          have hl : lv_has ls 8 [(6, .int r125), (5, .int r121), (0, .ref x0), (1, .ref x1), (2, .ref x2), (3, .ref x3), (4, .int x4)] := hl
          refine lv_goto (tgt := 974) hx hb (xb_d D_Law_law 356 rfl) rfl ?_
          exact am_Law_law_L974 l hfl D A σ L xs MC MS h0 Qr (w2_Law_law_L23 σ L xs Qr n9) ih x0 x1 x2 x3 x4 h124 bc121 bs121 hw p e s m args below meth c hC hX9 H locs ls (k + kk121) (n + nn121) hE (lv_sub hl [2, 3, 4, 5, 6] rfl) hR hS (by omega) (by omega)
        · exact False.elim hq
      have hw := hw.2
      by_cases hc126 : ((xs (Int32.toNatClampNeg x4)) &&& 31) = 13
      · have hw := hw.1 hc126
        refine xt_numi hc126 ?_
        refine lv_tableIn (off := 603) (tgt := 643) hx hb (xb_d D_Law_law 24 rfl) (by decide +kernel) (by decide +kernel) (by decide +kernel) (by decide) ?_
        refine lv_aload_n hx hb (xb_d D_Law_law 357 rfl) rfl (lv_at hl 1 rfl) ?_
        obtain ⟨hk127, hw⟩ := hw
        refine xb_call0 (D := D) (A := A) (σ := σ) (h := h) (d := 3) (maxL := 1) (rest := []) (av := [.ref x1]) (fun T hT X => by obtain ⟨cb9, ra9, rb9, rc9⟩ := xb_recv (ci := 0) hR rfl hk127 (by decide); exact xt_invV X hx hown (hts _ m_12774087) (hts _ m_b95c9c7f) (hts _ m_fbc9d42c) (xt_sigOf (hts _ m_d6deab78)) nm_H_stop (by rw [hT]; exact ra9) rb9 rc9 (g := F0 m 644 ls [.ref x1]) rfl (argsL := []) (rest := []) rfl rfl (by rw [hb]; exact (xb_d D_Law_law 358 rfl))) (ok_H_stop l hfl D A σ x1 h _ hw) (hml.trans hl.1.symm) (by rw [hb]; exact (xb_d D_Law_law 358 rfl)) (Nat.le_of_ble_eq_true rfl) (Nat.le_of_ble_eq_true rfl) (Nat.le_of_ble_eq_true rfl) (show k ≤ MC by omega) (show n ≤ MS by omega) (xt_w1 hB.1 m_d6deab78) (xt_cdOf hB.1 m_d6deab78) (hts _ m_ba0734f5) hB hR hS hA (fun vv h128 H locs hq hEh128 hR hS => ?_)
        obtain ⟨r129, rfl, hw⟩ := hq
        have hw := hw hEh128
        have hE := hE.tr hEh128
        refine W.eq (g2 := F0 m 647 ls [.int r129]) rfl ?_
        refine lv_pop hx hb (xb_d D_Law_law 359 rfl) rfl ?_
        refine lv_aload_n hx hb (xb_d D_Law_law 360 rfl) rfl (lv_at hl 2 rfl) ?_
        obtain ⟨hk130, hw⟩ := hw
        refine xb_call0 (D := D) (A := A) (σ := σ) (h := h128) (d := 2) (maxL := 2) (rest := []) (av := [.ref x2]) (fun T hT X => by obtain ⟨cb9, ra9, rb9, rc9⟩ := xb_recv (ci := 8) hR rfl hk130 (by decide); exact xt_invV X hx hown (hts _ m_abcbb5e9) (hts _ m_136699e8) (hts _ m_733b14e3) (xt_sigOf (hts _ m_545720a2)) nm_M_stop (by rw [hT]; exact ra9) rb9 rc9 (g := F0 m 649 ls [.ref x2]) rfl (argsL := []) (rest := []) rfl rfl (by rw [hb]; exact (xb_d D_Law_law 361 rfl))) (ok_M_stop l hfl D A σ x2 h128 _ hw) (hml.trans hl.1.symm) (by rw [hb]; exact (xb_d D_Law_law 361 rfl)) (Nat.le_of_ble_eq_true rfl) (Nat.le_of_ble_eq_true rfl) (Nat.le_of_ble_eq_true rfl) (show k ≤ MC by omega) (show n ≤ MS by omega) (xt_w1 hB.1 m_545720a2) (xt_cdOf hB.1 m_545720a2) (hts _ m_d5ed7bed) hB hR hS hA (fun vv h131 H locs hq hEh131 hR hS => ?_)
        obtain ⟨r132, rfl, hw⟩ := hq
        have hw := hw hEh131
        have hE := hE.tr hEh131
        refine W.eq (g2 := F0 m 652 ls [.int r132]) rfl ?_
        refine lv_pop hx hb (xb_d D_Law_law 362 rfl) rfl ?_
        refine lv_goto (tgt := 974) hx hb (xb_d D_Law_law 363 rfl) rfl ?_
        exact am_Law_law_L974 l hfl D A σ L xs MC MS h0 Qr (w2_Law_law_L23 σ L xs Qr n9) ih x0 x1 x2 x3 x4 h131 bc bs hw p e s m args below meth c hC hX9 H locs ls k n hE (lv_sub hl [0, 1, 2, 3, 4] rfl) hR hS (by omega) (by omega)
      have hw := hw.2
      by_cases hc133 : ((xs (Int32.toNatClampNeg x4)) &&& 31) = 14
      · have hw := hw.1 hc133
        refine xt_numi hc133 ?_
        refine lv_tableIn (off := 616) (tgt := 656) hx hb (xb_d D_Law_law 24 rfl) (by decide +kernel) (by decide +kernel) (by decide +kernel) (by decide) ?_
        refine lv_aload_n hx hb (xb_d D_Law_law 364 rfl) rfl (lv_at hl 1 rfl) ?_
        obtain ⟨hk134, hw⟩ := hw
        refine xb_call0 (D := D) (A := A) (σ := σ) (h := h) (d := 2) (maxL := 1) (rest := []) (av := [.ref x1]) (fun T hT X => by obtain ⟨cb9, ra9, rb9, rc9⟩ := xb_recv (ci := 0) hR rfl hk134 (by decide); exact xt_invV X hx hown (hts _ m_d844aec6) (hts _ m_284c1805) (hts _ m_a8d3f30a) (xt_sigOf (hts _ m_46c065db)) nm_H_calls (by rw [hT]; exact ra9) rb9 rc9 (g := F0 m 657 ls [.ref x1]) rfl (argsL := []) (rest := []) rfl rfl (by rw [hb]; exact (xb_d D_Law_law 365 rfl))) (ok_H_calls l hfl D A σ x1 h _ hw) (hml.trans hl.1.symm) (by rw [hb]; exact (xb_d D_Law_law 365 rfl)) (Nat.le_of_ble_eq_true rfl) (Nat.le_of_ble_eq_true rfl) (Nat.le_of_ble_eq_true rfl) (show k ≤ MC by omega) (show n ≤ MS by omega) (xt_w1 hB.1 m_46c065db) (xt_cdOf hB.1 m_46c065db) (hts _ m_ba0734f5) hB hR hS hA (fun vv h135 H locs hq hEh135 hR hS => ?_)
        obtain ⟨r136, rfl, hw⟩ := hq
        have hw := hw hEh135
        have hE := hE.tr hEh135
        refine W.eq (g2 := F0 m 660 ls [.int r136]) rfl ?_
        refine lv_pop hx hb (xb_d D_Law_law 366 rfl) rfl ?_
        refine lv_aload_n hx hb (xb_d D_Law_law 367 rfl) rfl (lv_at hl 2 rfl) ?_
        obtain ⟨hk137, hw⟩ := hw
        refine xb_call0 (D := D) (A := A) (σ := σ) (h := h135) (d := 2) (maxL := 1) (rest := []) (av := [.ref x2]) (fun T hT X => by obtain ⟨cb9, ra9, rb9, rc9⟩ := xb_recv (ci := 8) hR rfl hk137 (by decide); exact xt_invV X hx hown (hts _ m_4df48920) (hts _ m_c0729cda) (hts _ m_3840d3a2) (xt_sigOf (hts _ m_2518159a)) nm_M_calls (by rw [hT]; exact ra9) rb9 rc9 (g := F0 m 662 ls [.ref x2]) rfl (argsL := []) (rest := []) rfl rfl (by rw [hb]; exact (xb_d D_Law_law 368 rfl))) (ok_M_calls l hfl D A σ x2 h135 _ hw) (hml.trans hl.1.symm) (by rw [hb]; exact (xb_d D_Law_law 368 rfl)) (Nat.le_of_ble_eq_true rfl) (Nat.le_of_ble_eq_true rfl) (Nat.le_of_ble_eq_true rfl) (show k ≤ MC by omega) (show n ≤ MS by omega) (xt_w1 hB.1 m_2518159a) (xt_cdOf hB.1 m_2518159a) (hts _ m_d5ed7bed) hB hR hS hA (fun vv h138 H locs hq hEh138 hR hS => ?_)
        obtain ⟨r139, rfl, hw⟩ := hq
        have hw := hw hEh138
        have hE := hE.tr hEh138
        refine W.eq (g2 := F0 m 665 ls [.int r139]) rfl ?_
        refine lv_pop hx hb (xb_d D_Law_law 369 rfl) rfl ?_
        refine lv_goto (tgt := 974) hx hb (xb_d D_Law_law 370 rfl) rfl ?_
        exact am_Law_law_L974 l hfl D A σ L xs MC MS h0 Qr (w2_Law_law_L23 σ L xs Qr n9) ih x0 x1 x2 x3 x4 h138 bc bs hw p e s m args below meth c hC hX9 H locs ls k n hE (lv_sub hl [0, 1, 2, 3, 4] rfl) hR hS (by omega) (by omega)
      have hw := hw.2
      by_cases hc140 : ((xs (Int32.toNatClampNeg x4)) &&& 31) = 15
      · have hw := hw.1 hc140
        refine xt_numi hc140 ?_
        refine lv_tableIn (off := 629) (tgt := 669) hx hb (xb_d D_Law_law 24 rfl) (by decide +kernel) (by decide +kernel) (by decide +kernel) (by decide) ?_
        refine lv_aload_n hx hb (xb_d D_Law_law 371 rfl) rfl (lv_at hl 1 rfl) ?_
        obtain ⟨hk141, hw⟩ := hw
        refine xb_call0 (D := D) (A := A) (σ := σ) (h := h) (d := 2) (maxL := 1) (rest := []) (av := [.ref x1]) (fun T hT X => by obtain ⟨cb9, ra9, rb9, rc9⟩ := xb_recv (ci := 0) hR rfl hk141 (by decide); exact xt_invV X hx hown (hts _ m_08633262) (hts _ m_6f7c43e3) (hts _ m_6a5f97b4) (xt_sigOf (hts _ m_ee8450e5)) nm_H_result (by rw [hT]; exact ra9) rb9 rc9 (g := F0 m 670 ls [.ref x1]) rfl (argsL := []) (rest := []) rfl rfl (by rw [hb]; exact (xb_d D_Law_law 372 rfl))) (ok_H_result l hfl D A σ x1 h _ hw) (hml.trans hl.1.symm) (by rw [hb]; exact (xb_d D_Law_law 372 rfl)) (Nat.le_of_ble_eq_true rfl) (Nat.le_of_ble_eq_true rfl) (Nat.le_of_ble_eq_true rfl) (show k ≤ MC by omega) (show n ≤ MS by omega) (xt_w1 hB.1 m_ee8450e5) (xt_cdOf hB.1 m_ee8450e5) (hts _ m_ba0734f5) hB hR hS hA (fun vv h142 H locs hq hEh142 hR hS => ?_)
        obtain ⟨r143, rfl, hw⟩ := hq
        have hw := hw hEh142
        have hE := hE.tr hEh142
        refine W.eq (g2 := F0 m 673 ls [.long r143]) rfl ?_
        refine lv_pop2_2 hx hb (xb_d D_Law_law 373 rfl) rfl ?_
        refine lv_aload_n hx hb (xb_d D_Law_law 374 rfl) rfl (lv_at hl 2 rfl) ?_
        obtain ⟨hk144, hw⟩ := hw
        refine xb_call0 (D := D) (A := A) (σ := σ) (h := h142) (d := 2) (maxL := 1) (rest := []) (av := [.ref x2]) (fun T hT X => by obtain ⟨cb9, ra9, rb9, rc9⟩ := xb_recv (ci := 8) hR rfl hk144 (by decide); exact xt_invV X hx hown (hts _ m_613ccdf4) (hts _ m_a6fe7e52) (hts _ m_429e009f) (xt_sigOf (hts _ m_45e6955b)) nm_M_result (by rw [hT]; exact ra9) rb9 rc9 (g := F0 m 675 ls [.ref x2]) rfl (argsL := []) (rest := []) rfl rfl (by rw [hb]; exact (xb_d D_Law_law 375 rfl))) (ok_M_result l hfl D A σ x2 h142 _ hw) (hml.trans hl.1.symm) (by rw [hb]; exact (xb_d D_Law_law 375 rfl)) (Nat.le_of_ble_eq_true rfl) (Nat.le_of_ble_eq_true rfl) (Nat.le_of_ble_eq_true rfl) (show k ≤ MC by omega) (show n ≤ MS by omega) (xt_w1 hB.1 m_45e6955b) (xt_cdOf hB.1 m_45e6955b) (hts _ m_d5ed7bed) hB hR hS hA (fun vv h145 H locs hq hEh145 hR hS => ?_)
        obtain ⟨r146, rfl, hw⟩ := hq
        have hw := hw hEh145
        have hE := hE.tr hEh145
        refine W.eq (g2 := F0 m 678 ls [.long r146]) rfl ?_
        refine lv_pop2_2 hx hb (xb_d D_Law_law 376 rfl) rfl ?_
        refine lv_goto (tgt := 974) hx hb (xb_d D_Law_law 377 rfl) rfl ?_
        exact am_Law_law_L974 l hfl D A σ L xs MC MS h0 Qr (w2_Law_law_L23 σ L xs Qr n9) ih x0 x1 x2 x3 x4 h145 bc bs hw p e s m args below meth c hC hX9 H locs ls k n hE (lv_sub hl [0, 1, 2, 3, 4] rfl) hR hS (by omega) (by omega)
      have hw := hw.2
      by_cases hc147 : ((xs (Int32.toNatClampNeg x4)) &&& 31) = 16
      · have hw := hw.1 hc147
        refine xt_numi hc147 ?_
        refine lv_tableIn (off := 642) (tgt := 682) hx hb (xb_d D_Law_law 24 rfl) (by decide +kernel) (by decide +kernel) (by decide +kernel) (by decide) ?_
        refine lv_aload_n hx hb (xb_d D_Law_law 378 rfl) rfl (lv_at hl 1 rfl) ?_
        refine lv_aload_n hx hb (xb_d D_Law_law 379 rfl) rfl (lv_at hl 0 rfl) ?_
        refine lv_iload hx hb (xb_d D_Law_law 380 rfl) (lv_at hl 4 rfl) ?_
        refine lv_iconst (v := 1) hx hb (xb_d D_Law_law 381 rfl) (by decide) ?_
        refine lv_iadd hx hb (xb_d D_Law_law 382 rfl) ?_
        obtain ⟨hi148, hw⟩ := hw
        refine va_sld hx hb hX hbl hbA hS hi148 (xb_d D_Law_law 383 rfl) ?_
        refine lv_aload_n hx hb (xb_d D_Law_law 384 rfl) rfl (lv_at hl 3 rfl) ?_
        refine xb_call (D := D) (A := A) (σ := σ) (h := h) (d := 3) (mc := bc) (ms := bs) (maxL := 4) (rest := []) (av := [.ref x1, .int (xs (Int32.toNatClampNeg (x4 + 1))), .ref x3]) (fun T hT X => xt_invS X hx hown (hts _ m_896b3be2) (hts _ m_3ae348b9) (hts _ m_6445b362) (xt_sgSH (hts _ m_c46c6eff)).1 (xt_sgSH (hts _ m_c46c6eff)).2 nm_Law_trap (g := F0 m 690 ls [.ref x3, .int (xs (Int32.toNatClampNeg (x4 + 1))), .ref x1]) rfl (argsL := [.ref x1, .int (xs (Int32.toNatClampNeg (x4 + 1))), .ref x3]) (rest := []) rfl rfl (by rw [hb]; exact (xb_d D_Law_law 385 rfl))) (ok_Law_trap l hfl D A σ x1 (xs (Int32.toNatClampNeg (x4 + 1))) x3 h bc bs _ hw) (hml.trans hl.1.symm) (by rw [hb]; exact (xb_d D_Law_law 385 rfl)) (Nat.le_of_ble_eq_true rfl) (Nat.le_of_ble_eq_true rfl) (Nat.le_of_ble_eq_true rfl) (show k + bc ≤ MC by omega) (show n + bs ≤ MS by omega) (xt_w1 hB.1 m_c46c6eff) (xt_cdOfH hB.1 m_c46c6eff) (hts _ m_6445b362) hB hR hS hA (fun vv h149 bc150 bs150 kk150 nn150 H locs hk150 hn150 hq hEh149 hR hS => ?_) (fun XX ax h149 bc150 bs150 kk150 nn150 H locs hk150 hn150 hq hEh149 hex hR hS => ?_)
        · obtain ⟨r150, rfl, hw⟩ := hq
          have hw := hw hEh149
          have hE := hE.tr hEh149
          refine W.eq (g2 := F0 m 693 ls [.int r150]) rfl ?_
          refine lv_istore hx hb (xb_d D_Law_law 386 rfl) hl (by decide) rfl (fun ls hl => ?_)
          have hl : lv_has ls 8 [(5, .int r150), (0, .ref x0), (1, .ref x1), (2, .ref x2), (3, .ref x3), (4, .int x4)] := hl
          refine lv_aload_n hx hb (xb_d D_Law_law 387 rfl) rfl (lv_at hl 3 rfl) ?_
          refine lv_aload_n hx hb (xb_d D_Law_law 388 rfl) rfl (lv_at hl 1 rfl) ?_
          refine lv_iload hx hb (xb_d D_Law_law 389 rfl) (lv_at hl 5 rfl) ?_
          refine lv_iconst (v := 1) hx hb (xb_d D_Law_law 390 rfl) (by decide) ?_
          refine lv_iadd hx hb (xb_d D_Law_law 391 rfl) ?_
          obtain ⟨hi151, hw⟩ := hw
          refine va_sld hx hb hX hbl hbA hS hi151 (xb_d D_Law_law 392 rfl) ?_
          obtain ⟨hk152, hw⟩ := hw
          refine xb_call0 (D := D) (A := A) (σ := σ) (h := h149) (d := 2) (maxL := 2) (rest := []) (av := [.ref x2, .int (xs (Int32.toNatClampNeg (x4 + 1)))]) (fun T hT X => by obtain ⟨cb9, ra9, rb9, rc9⟩ := xb_recv (ci := 8) hR rfl hk152 (by decide); exact xt_invV X hx hown (hts _ m_7adad09a) (hts _ m_f4d30eb7) (hts _ m_684d6285) (xt_sigOf (hts _ m_4b26901a)) nm_M_trap (by rw [hT]; exact ra9) rb9 rc9 (g := F0 m 702 ls [.int (xs (Int32.toNatClampNeg (x4 + 1))), .ref x2]) rfl (argsL := [.int (xs (Int32.toNatClampNeg (x4 + 1)))]) (rest := []) rfl rfl (by rw [hb]; exact (xb_d D_Law_law 393 rfl))) (ok_M_trap l hfl D A σ x2 (xs (Int32.toNatClampNeg (x4 + 1))) h149 _ hw) (hml.trans hl.1.symm) (by rw [hb]; exact (xb_d D_Law_law 393 rfl)) (Nat.le_of_ble_eq_true rfl) (Nat.le_of_ble_eq_true rfl) (Nat.le_of_ble_eq_true rfl) (show (k + kk150) ≤ MC by omega) (show (n + nn150) ≤ MS by omega) (xt_w1 hB.1 m_4b26901a) (xt_cdOf hB.1 m_4b26901a) (hts _ m_d5ed7bed) hB hR hS hA (fun vv h153 H locs hq hEh153 hR hS => ?_)
          obtain ⟨r154, rfl, hw⟩ := hq
          have hw := hw hEh153
          have hE := hE.tr hEh153
          refine W.eq (g2 := F0 m 705 ls [.int r154]) rfl ?_
          refine lv_istore hx hb (xb_d D_Law_law 394 rfl) hl (by decide) rfl (fun ls hl => ?_)
          have hl : lv_has ls 8 [(6, .int r154), (5, .int r150), (0, .ref x0), (1, .ref x1), (2, .ref x2), (3, .ref x3), (4, .int x4)] := hl
          refine lv_goto (tgt := 974) hx hb (xb_d D_Law_law 395 rfl) rfl ?_
          exact am_Law_law_L974 l hfl D A σ L xs MC MS h0 Qr (w2_Law_law_L23 σ L xs Qr n9) ih x0 x1 x2 x3 x4 h153 bc150 bs150 hw p e s m args below meth c hC hX9 H locs ls (k + kk150) (n + nn150) hE (lv_sub hl [2, 3, 4, 5, 6] rfl) hR hS (by omega) (by omega)
        · exact False.elim hq
      have hw := hw.2
      by_cases hc155 : ((xs (Int32.toNatClampNeg x4)) &&& 31) = 17
      · have hw := hw.1 hc155
        refine xt_numi hc155 ?_
        refine lv_tableIn (off := 670) (tgt := 710) hx hb (xb_d D_Law_law 24 rfl) (by decide +kernel) (by decide +kernel) (by decide +kernel) (by decide) ?_
        refine lv_aload_n hx hb (xb_d D_Law_law 396 rfl) rfl (lv_at hl 1 rfl) ?_
        refine lv_aload_n hx hb (xb_d D_Law_law 397 rfl) rfl (lv_at hl 0 rfl) ?_
        refine lv_iload hx hb (xb_d D_Law_law 398 rfl) (lv_at hl 4 rfl) ?_
        refine lv_iconst (v := 1) hx hb (xb_d D_Law_law 399 rfl) (by decide) ?_
        refine lv_iadd hx hb (xb_d D_Law_law 400 rfl) ?_
        obtain ⟨hi156, hw⟩ := hw
        refine va_sld hx hb hX hbl hbA hS hi156 (xb_d D_Law_law 401 rfl) ?_
        refine lv_aload_n hx hb (xb_d D_Law_law 402 rfl) rfl (lv_at hl 3 rfl) ?_
        refine xb_call (D := D) (A := A) (σ := σ) (h := h) (d := 4) (mc := bc) (ms := bs) (maxL := 4) (rest := []) (av := [.ref x1, .int (xs (Int32.toNatClampNeg (x4 + 1))), .ref x3]) (fun T hT X => xt_invS X hx hown (hts _ m_8b636c54) (hts _ m_036c732f) (hts _ m_6445b362) (xt_sgSH (hts _ m_d751318f)).1 (xt_sgSH (hts _ m_d751318f)).2 nm_Law_pages (g := F0 m 718 ls [.ref x3, .int (xs (Int32.toNatClampNeg (x4 + 1))), .ref x1]) rfl (argsL := [.ref x1, .int (xs (Int32.toNatClampNeg (x4 + 1))), .ref x3]) (rest := []) rfl rfl (by rw [hb]; exact (xb_d D_Law_law 403 rfl))) (ok_Law_pages l hfl D A σ x1 (xs (Int32.toNatClampNeg (x4 + 1))) x3 h bc bs _ hw) (hml.trans hl.1.symm) (by rw [hb]; exact (xb_d D_Law_law 403 rfl)) (Nat.le_of_ble_eq_true rfl) (Nat.le_of_ble_eq_true rfl) (Nat.le_of_ble_eq_true rfl) (show k + bc ≤ MC by omega) (show n + bs ≤ MS by omega) (xt_w1 hB.1 m_d751318f) (xt_cdOfH hB.1 m_d751318f) (hts _ m_6445b362) hB hR hS hA (fun vv h157 bc158 bs158 kk158 nn158 H locs hk158 hn158 hq hEh157 hR hS => ?_) (fun XX ax h157 bc158 bs158 kk158 nn158 H locs hk158 hn158 hq hEh157 hex hR hS => ?_)
        · obtain ⟨r158, rfl, hw⟩ := hq
          have hw := hw hEh157
          have hE := hE.tr hEh157
          refine W.eq (g2 := F0 m 721 ls [.int r158]) rfl ?_
          refine lv_istore hx hb (xb_d D_Law_law 404 rfl) hl (by decide) rfl (fun ls hl => ?_)
          have hl : lv_has ls 8 [(5, .int r158), (0, .ref x0), (1, .ref x1), (2, .ref x2), (3, .ref x3), (4, .int x4)] := hl
          refine lv_aload_n hx hb (xb_d D_Law_law 405 rfl) rfl (lv_at hl 3 rfl) ?_
          refine lv_aload_n hx hb (xb_d D_Law_law 406 rfl) rfl (lv_at hl 1 rfl) ?_
          refine lv_iload hx hb (xb_d D_Law_law 407 rfl) (lv_at hl 5 rfl) ?_
          refine lv_iconst (v := 1) hx hb (xb_d D_Law_law 408 rfl) (by decide) ?_
          refine lv_iadd hx hb (xb_d D_Law_law 409 rfl) ?_
          obtain ⟨hi159, hw⟩ := hw
          refine va_sld hx hb hX hbl hbA hS hi159 (xb_d D_Law_law 410 rfl) ?_
          obtain ⟨hk160, hw⟩ := hw
          refine xb_call0 (D := D) (A := A) (σ := σ) (h := h157) (d := 10) (maxL := 3) (rest := []) (av := [.ref x2, .int (xs (Int32.toNatClampNeg (x4 + 1)))]) (fun T hT X => by obtain ⟨cb9, ra9, rb9, rc9⟩ := xb_recv (ci := 8) hR rfl hk160 (by decide); exact xt_invV X hx hown (hts _ m_8afe5f1d) (hts _ m_7ca87fc2) (hts _ m_91e3eddb) (xt_sigOf (hts _ m_7d1491ad)) nm_M_pages (by rw [hT]; exact ra9) rb9 rc9 (g := F0 m 730 ls [.int (xs (Int32.toNatClampNeg (x4 + 1))), .ref x2]) rfl (argsL := [.int (xs (Int32.toNatClampNeg (x4 + 1)))]) (rest := []) rfl rfl (by rw [hb]; exact (xb_d D_Law_law 411 rfl))) (ok_M_pages l hfl D A σ x2 (xs (Int32.toNatClampNeg (x4 + 1))) h157 _ hw) (hml.trans hl.1.symm) (by rw [hb]; exact (xb_d D_Law_law 411 rfl)) (Nat.le_of_ble_eq_true rfl) (Nat.le_of_ble_eq_true rfl) (Nat.le_of_ble_eq_true rfl) (show (k + kk158) ≤ MC by omega) (show (n + nn158) ≤ MS by omega) (xt_w1 hB.1 m_7d1491ad) (xt_cdOf hB.1 m_7d1491ad) (hts _ m_d5ed7bed) hB hR hS hA (fun vv h161 H locs hq hEh161 hR hS => ?_)
          obtain ⟨r162, rfl, hw⟩ := hq
          have hw := hw hEh161
          have hE := hE.tr hEh161
          refine W.eq (g2 := F0 m 733 ls [.int r162]) rfl ?_
          refine lv_istore hx hb (xb_d D_Law_law 412 rfl) hl (by decide) rfl (fun ls hl => ?_)
          have hl : lv_has ls 8 [(6, .int r162), (5, .int r158), (0, .ref x0), (1, .ref x1), (2, .ref x2), (3, .ref x3), (4, .int x4)] := hl
          refine lv_goto (tgt := 974) hx hb (xb_d D_Law_law 413 rfl) rfl ?_
          exact am_Law_law_L974 l hfl D A σ L xs MC MS h0 Qr (w2_Law_law_L23 σ L xs Qr n9) ih x0 x1 x2 x3 x4 h161 bc158 bs158 hw p e s m args below meth c hC hX9 H locs ls (k + kk158) (n + nn158) hE (lv_sub hl [2, 3, 4, 5, 6] rfl) hR hS (by omega) (by omega)
        · exact False.elim hq
      have hw := hw.2
      by_cases hc163 : ((xs (Int32.toNatClampNeg x4)) &&& 31) = 18
      · have hw := hw.1 hc163
        refine xt_numi hc163 ?_
        refine lv_tableIn (off := 698) (tgt := 738) hx hb (xb_d D_Law_law 24 rfl) (by decide +kernel) (by decide +kernel) (by decide +kernel) (by decide) ?_
        refine lv_aload_n hx hb (xb_d D_Law_law 414 rfl) rfl (lv_at hl 1 rfl) ?_
        refine lv_aload_n hx hb (xb_d D_Law_law 415 rfl) rfl (lv_at hl 0 rfl) ?_
        refine lv_iload hx hb (xb_d D_Law_law 416 rfl) (lv_at hl 4 rfl) ?_
        refine lv_iconst (v := 1) hx hb (xb_d D_Law_law 417 rfl) (by decide) ?_
        refine lv_iadd hx hb (xb_d D_Law_law 418 rfl) ?_
        obtain ⟨hi164, hw⟩ := hw
        refine va_sld hx hb hX hbl hbA hS hi164 (xb_d D_Law_law 419 rfl) ?_
        refine lv_aload_n hx hb (xb_d D_Law_law 420 rfl) rfl (lv_at hl 0 rfl) ?_
        refine lv_iload hx hb (xb_d D_Law_law 421 rfl) (lv_at hl 4 rfl) ?_
        refine lv_iconst (v := 2) hx hb (xb_d D_Law_law 422 rfl) (by decide) ?_
        refine lv_iadd hx hb (xb_d D_Law_law 423 rfl) ?_
        obtain ⟨hi165, hw⟩ := hw
        refine va_sld hx hb hX hbl hbA hS hi165 (xb_d D_Law_law 424 rfl) ?_
        refine lv_aload_n hx hb (xb_d D_Law_law 425 rfl) rfl (lv_at hl 3 rfl) ?_
        refine xb_call (D := D) (A := A) (σ := σ) (h := h) (d := 5) (mc := bc) (ms := bs) (maxL := 5) (rest := []) (av := [.ref x1, .int (xs (Int32.toNatClampNeg (x4 + 1))), .int (xs (Int32.toNatClampNeg (x4 + 2))), .ref x3]) (fun T hT X => xt_invS X hx hown (hts _ m_6e20cb42) (hts _ m_443dad31) (hts _ m_6445b362) (xt_sgSH (hts _ m_01ffaec7)).1 (xt_sgSH (hts _ m_01ffaec7)).2 nm_Law_peek (g := F0 m 752 ls [.ref x3, .int (xs (Int32.toNatClampNeg (x4 + 2))), .int (xs (Int32.toNatClampNeg (x4 + 1))), .ref x1]) rfl (argsL := [.ref x1, .int (xs (Int32.toNatClampNeg (x4 + 1))), .int (xs (Int32.toNatClampNeg (x4 + 2))), .ref x3]) (rest := []) rfl rfl (by rw [hb]; exact (xb_d D_Law_law 426 rfl))) (ok_Law_peek l hfl D A σ x1 (xs (Int32.toNatClampNeg (x4 + 1))) (xs (Int32.toNatClampNeg (x4 + 2))) x3 h bc bs _ hw) (hml.trans hl.1.symm) (by rw [hb]; exact (xb_d D_Law_law 426 rfl)) (Nat.le_of_ble_eq_true rfl) (Nat.le_of_ble_eq_true rfl) (Nat.le_of_ble_eq_true rfl) (show k + bc ≤ MC by omega) (show n + bs ≤ MS by omega) (xt_w1 hB.1 m_01ffaec7) (xt_cdOfH hB.1 m_01ffaec7) (hts _ m_6445b362) hB hR hS hA (fun vv h166 bc167 bs167 kk167 nn167 H locs hk167 hn167 hq hEh166 hR hS => ?_) (fun XX ax h166 bc167 bs167 kk167 nn167 H locs hk167 hn167 hq hEh166 hex hR hS => ?_)
        · obtain ⟨r167, rfl, hw⟩ := hq
          have hw := hw hEh166
          have hE := hE.tr hEh166
          refine W.eq (g2 := F0 m 755 ls [.int r167]) rfl ?_
          refine lv_istore hx hb (xb_d D_Law_law 427 rfl) hl (by decide) rfl (fun ls hl => ?_)
          have hl : lv_has ls 8 [(5, .int r167), (0, .ref x0), (1, .ref x1), (2, .ref x2), (3, .ref x3), (4, .int x4)] := hl
          refine lv_aload_n hx hb (xb_d D_Law_law 428 rfl) rfl (lv_at hl 3 rfl) ?_
          refine lv_aload_n hx hb (xb_d D_Law_law 429 rfl) rfl (lv_at hl 1 rfl) ?_
          refine lv_iload hx hb (xb_d D_Law_law 430 rfl) (lv_at hl 5 rfl) ?_
          refine lv_iconst (v := 1) hx hb (xb_d D_Law_law 431 rfl) (by decide) ?_
          refine lv_iadd hx hb (xb_d D_Law_law 432 rfl) ?_
          obtain ⟨hi168, hw⟩ := hw
          refine va_sld hx hb hX hbl hbA hS hi168 (xb_d D_Law_law 433 rfl) ?_
          refine lv_aload_n hx hb (xb_d D_Law_law 434 rfl) rfl (lv_at hl 1 rfl) ?_
          refine lv_iload hx hb (xb_d D_Law_law 435 rfl) (lv_at hl 5 rfl) ?_
          refine lv_iconst (v := 2) hx hb (xb_d D_Law_law 436 rfl) (by decide) ?_
          refine lv_iadd hx hb (xb_d D_Law_law 437 rfl) ?_
          obtain ⟨hi169, hw⟩ := hw
          refine va_sld hx hb hX hbl hbA hS hi169 (xb_d D_Law_law 438 rfl) ?_
          obtain ⟨hk170, hw⟩ := hw
          refine xb_call0 (D := D) (A := A) (σ := σ) (h := h166) (d := 11) (maxL := 3) (rest := []) (av := [.ref x2, .int (xs (Int32.toNatClampNeg (x4 + 1))), .int (xs (Int32.toNatClampNeg (x4 + 2)))]) (fun T hT X => by obtain ⟨cb9, ra9, rb9, rc9⟩ := xb_recv (ci := 8) hR rfl hk170 (by decide); exact xt_invV X hx hown (hts _ m_850e22fe) (hts _ m_7518de03) (hts _ m_c1a54879) (xt_sigOf (hts _ m_bbd82706)) nm_M_peek (by rw [hT]; exact ra9) rb9 rc9 (g := F0 m 770 ls [.int (xs (Int32.toNatClampNeg (x4 + 2))), .int (xs (Int32.toNatClampNeg (x4 + 1))), .ref x2]) rfl (argsL := [.int (xs (Int32.toNatClampNeg (x4 + 1))), .int (xs (Int32.toNatClampNeg (x4 + 2)))]) (rest := []) rfl rfl (by rw [hb]; exact (xb_d D_Law_law 439 rfl))) (ok_M_peek l hfl D A σ x2 (xs (Int32.toNatClampNeg (x4 + 1))) (xs (Int32.toNatClampNeg (x4 + 2))) h166 _ hw) (hml.trans hl.1.symm) (by rw [hb]; exact (xb_d D_Law_law 439 rfl)) (Nat.le_of_ble_eq_true rfl) (Nat.le_of_ble_eq_true rfl) (Nat.le_of_ble_eq_true rfl) (show (k + kk167) ≤ MC by omega) (show (n + nn167) ≤ MS by omega) (xt_w1 hB.1 m_bbd82706) (xt_cdOf hB.1 m_bbd82706) (hts _ m_d5ed7bed) hB hR hS hA (fun vv h171 H locs hq hEh171 hR hS => ?_)
          obtain ⟨r172, rfl, hw⟩ := hq
          have hw := hw hEh171
          have hE := hE.tr hEh171
          refine W.eq (g2 := F0 m 773 ls [.int r172]) rfl ?_
          refine lv_istore hx hb (xb_d D_Law_law 440 rfl) hl (by decide) rfl (fun ls hl => ?_)
          have hl : lv_has ls 8 [(6, .int r172), (5, .int r167), (0, .ref x0), (1, .ref x1), (2, .ref x2), (3, .ref x3), (4, .int x4)] := hl
          refine lv_goto (tgt := 974) hx hb (xb_d D_Law_law 441 rfl) rfl ?_
          exact am_Law_law_L974 l hfl D A σ L xs MC MS h0 Qr (w2_Law_law_L23 σ L xs Qr n9) ih x0 x1 x2 x3 x4 h171 bc167 bs167 hw p e s m args below meth c hC hX9 H locs ls (k + kk167) (n + nn167) hE (lv_sub hl [2, 3, 4, 5, 6] rfl) hR hS (by omega) (by omega)
        · exact False.elim hq
      have hw := hw.2
      by_cases hc173 : ((xs (Int32.toNatClampNeg x4)) &&& 31) = 19
      · have hw := hw.1 hc173
        refine xt_numi hc173 ?_
        refine lv_tableIn (off := 738) (tgt := 778) hx hb (xb_d D_Law_law 24 rfl) (by decide +kernel) (by decide +kernel) (by decide +kernel) (by decide) ?_
        refine lv_aload_n hx hb (xb_d D_Law_law 442 rfl) rfl (lv_at hl 1 rfl) ?_
        refine lv_aload_n hx hb (xb_d D_Law_law 443 rfl) rfl (lv_at hl 0 rfl) ?_
        refine lv_iload hx hb (xb_d D_Law_law 444 rfl) (lv_at hl 4 rfl) ?_
        refine lv_iconst (v := 1) hx hb (xb_d D_Law_law 445 rfl) (by decide) ?_
        refine lv_iadd hx hb (xb_d D_Law_law 446 rfl) ?_
        obtain ⟨hi174, hw⟩ := hw
        refine va_sld hx hb hX hbl hbA hS hi174 (xb_d D_Law_law 447 rfl) ?_
        refine lv_aload_n hx hb (xb_d D_Law_law 448 rfl) rfl (lv_at hl 0 rfl) ?_
        refine lv_iload hx hb (xb_d D_Law_law 449 rfl) (lv_at hl 4 rfl) ?_
        refine lv_iconst (v := 2) hx hb (xb_d D_Law_law 450 rfl) (by decide) ?_
        refine lv_iadd hx hb (xb_d D_Law_law 451 rfl) ?_
        obtain ⟨hi175, hw⟩ := hw
        refine va_sld hx hb hX hbl hbA hS hi175 (xb_d D_Law_law 452 rfl) ?_
        refine lv_aload_n hx hb (xb_d D_Law_law 453 rfl) rfl (lv_at hl 0 rfl) ?_
        refine lv_iload hx hb (xb_d D_Law_law 454 rfl) (lv_at hl 4 rfl) ?_
        refine lv_iconst (v := 3) hx hb (xb_d D_Law_law 455 rfl) (by decide) ?_
        refine lv_iadd hx hb (xb_d D_Law_law 456 rfl) ?_
        obtain ⟨hi176, hw⟩ := hw
        refine va_sld hx hb hX hbl hbA hS hi176 (xb_d D_Law_law 457 rfl) ?_
        refine xb_call (D := D) (A := A) (σ := σ) (h := h) (d := 5) (mc := bc) (ms := bs) (maxL := 5) (rest := []) (av := [.ref x1, .int (xs (Int32.toNatClampNeg (x4 + 1))), .int (xs (Int32.toNatClampNeg (x4 + 2))), .int (xs (Int32.toNatClampNeg (x4 + 3)))]) (fun T hT X => xt_invS X hx hown (hts _ m_8c12a8b3) (hts _ m_d97d1e9a) (hts _ m_6445b362) (xt_sgSH (hts _ m_89f22d82)).1 (xt_sgSH (hts _ m_89f22d82)).2 nm_Law_poke (g := F0 m 797 ls [.int (xs (Int32.toNatClampNeg (x4 + 3))), .int (xs (Int32.toNatClampNeg (x4 + 2))), .int (xs (Int32.toNatClampNeg (x4 + 1))), .ref x1]) rfl (argsL := [.ref x1, .int (xs (Int32.toNatClampNeg (x4 + 1))), .int (xs (Int32.toNatClampNeg (x4 + 2))), .int (xs (Int32.toNatClampNeg (x4 + 3)))]) (rest := []) rfl rfl (by rw [hb]; exact (xb_d D_Law_law 458 rfl))) (ok_Law_poke l hfl D A σ x1 (xs (Int32.toNatClampNeg (x4 + 1))) (xs (Int32.toNatClampNeg (x4 + 2))) (xs (Int32.toNatClampNeg (x4 + 3))) h bc bs _ hw) (hml.trans hl.1.symm) (by rw [hb]; exact (xb_d D_Law_law 458 rfl)) (Nat.le_of_ble_eq_true rfl) (Nat.le_of_ble_eq_true rfl) (Nat.le_of_ble_eq_true rfl) (show k + bc ≤ MC by omega) (show n + bs ≤ MS by omega) (xt_w1 hB.1 m_89f22d82) (xt_cdOfH hB.1 m_89f22d82) (hts _ m_6445b362) hB hR hS hA (fun vv h177 bc178 bs178 kk178 nn178 H locs hk178 hn178 hq hEh177 hR hS => ?_) (fun XX ax h177 bc178 bs178 kk178 nn178 H locs hk178 hn178 hq hEh177 hex hR hS => ?_)
        · obtain ⟨r178, rfl, hw⟩ := hq
          have hw := hw hEh177
          have hE := hE.tr hEh177
          refine W.eq (g2 := F0 m 800 ls [.int r178]) rfl ?_
          refine lv_istore hx hb (xb_d D_Law_law 459 rfl) hl (by decide) rfl (fun ls hl => ?_)
          have hl : lv_has ls 8 [(5, .int r178), (0, .ref x0), (1, .ref x1), (2, .ref x2), (3, .ref x3), (4, .int x4)] := hl
          refine lv_aload_n hx hb (xb_d D_Law_law 460 rfl) rfl (lv_at hl 3 rfl) ?_
          refine lv_aload_n hx hb (xb_d D_Law_law 461 rfl) rfl (lv_at hl 1 rfl) ?_
          refine lv_iload hx hb (xb_d D_Law_law 462 rfl) (lv_at hl 5 rfl) ?_
          refine lv_iconst (v := 1) hx hb (xb_d D_Law_law 463 rfl) (by decide) ?_
          refine lv_iadd hx hb (xb_d D_Law_law 464 rfl) ?_
          obtain ⟨hi179, hw⟩ := hw
          refine va_sld hx hb hX hbl hbA hS hi179 (xb_d D_Law_law 465 rfl) ?_
          refine lv_aload_n hx hb (xb_d D_Law_law 466 rfl) rfl (lv_at hl 1 rfl) ?_
          refine lv_iload hx hb (xb_d D_Law_law 467 rfl) (lv_at hl 5 rfl) ?_
          refine lv_iconst (v := 2) hx hb (xb_d D_Law_law 468 rfl) (by decide) ?_
          refine lv_iadd hx hb (xb_d D_Law_law 469 rfl) ?_
          obtain ⟨hi180, hw⟩ := hw
          refine va_sld hx hb hX hbl hbA hS hi180 (xb_d D_Law_law 470 rfl) ?_
          refine lv_aload_n hx hb (xb_d D_Law_law 471 rfl) rfl (lv_at hl 1 rfl) ?_
          refine lv_iload hx hb (xb_d D_Law_law 472 rfl) (lv_at hl 5 rfl) ?_
          refine lv_iconst (v := 3) hx hb (xb_d D_Law_law 473 rfl) (by decide) ?_
          refine lv_iadd hx hb (xb_d D_Law_law 474 rfl) ?_
          obtain ⟨hi181, hw⟩ := hw
          refine va_sld hx hb hX hbl hbA hS hi181 (xb_d D_Law_law 475 rfl) ?_
          obtain ⟨hk182, hw⟩ := hw
          refine xb_call0 (D := D) (A := A) (σ := σ) (h := h177) (d := 11) (maxL := 4) (rest := []) (av := [.ref x2, .int (xs (Int32.toNatClampNeg (x4 + 1))), .int (xs (Int32.toNatClampNeg (x4 + 2))), .int (xs (Int32.toNatClampNeg (x4 + 3)))]) (fun T hT X => by obtain ⟨cb9, ra9, rb9, rc9⟩ := xb_recv (ci := 8) hR rfl hk182 (by decide); exact xt_invV X hx hown (hts _ m_beb057d7) (hts _ m_e7c94f39) (hts _ m_b52df5e7) (xt_sigOf (hts _ m_6c937a06)) nm_M_poke (by rw [hT]; exact ra9) rb9 rc9 (g := F0 m 821 ls [.int (xs (Int32.toNatClampNeg (x4 + 3))), .int (xs (Int32.toNatClampNeg (x4 + 2))), .int (xs (Int32.toNatClampNeg (x4 + 1))), .ref x2]) rfl (argsL := [.int (xs (Int32.toNatClampNeg (x4 + 1))), .int (xs (Int32.toNatClampNeg (x4 + 2))), .int (xs (Int32.toNatClampNeg (x4 + 3)))]) (rest := []) rfl rfl (by rw [hb]; exact (xb_d D_Law_law 476 rfl))) (ok_M_poke l hfl D A σ x2 (xs (Int32.toNatClampNeg (x4 + 1))) (xs (Int32.toNatClampNeg (x4 + 2))) (xs (Int32.toNatClampNeg (x4 + 3))) h177 _ hw) (hml.trans hl.1.symm) (by rw [hb]; exact (xb_d D_Law_law 476 rfl)) (Nat.le_of_ble_eq_true rfl) (Nat.le_of_ble_eq_true rfl) (Nat.le_of_ble_eq_true rfl) (show (k + kk178) ≤ MC by omega) (show (n + nn178) ≤ MS by omega) (xt_w1 hB.1 m_6c937a06) (xt_cdOf hB.1 m_6c937a06) (hts _ m_d5ed7bed) hB hR hS hA (fun vv h183 H locs hq hEh183 hR hS => ?_)
          obtain ⟨rfl, hw⟩ := hq
          have hw := hw hEh183
          have hE := hE.tr hEh183
          refine W.eq (g2 := F0 m 824 ls []) rfl ?_
          refine lv_goto (tgt := 974) hx hb (xb_d D_Law_law 477 rfl) rfl ?_
          exact am_Law_law_L974 l hfl D A σ L xs MC MS h0 Qr (w2_Law_law_L23 σ L xs Qr n9) ih x0 x1 x2 x3 x4 h183 bc178 bs178 hw p e s m args below meth c hC hX9 H locs ls (k + kk178) (n + nn178) hE (lv_sub hl [1, 2, 3, 4, 5] rfl) hR hS (by omega) (by omega)
        · exact False.elim hq
      have hw := hw.2
      by_cases hc185 : ((xs (Int32.toNatClampNeg x4)) &&& 31) = 20
      · have hw := hw.1 hc185
        refine xt_numi hc185 ?_
        refine lv_tableIn (off := 787) (tgt := 827) hx hb (xb_d D_Law_law 24 rfl) (by decide +kernel) (by decide +kernel) (by decide +kernel) (by decide) ?_
        refine lv_aload_n hx hb (xb_d D_Law_law 478 rfl) rfl (lv_at hl 1 rfl) ?_
        refine lv_aload_n hx hb (xb_d D_Law_law 479 rfl) rfl (lv_at hl 0 rfl) ?_
        refine lv_iload hx hb (xb_d D_Law_law 480 rfl) (lv_at hl 4 rfl) ?_
        refine lv_iconst (v := 1) hx hb (xb_d D_Law_law 481 rfl) (by decide) ?_
        refine lv_iadd hx hb (xb_d D_Law_law 482 rfl) ?_
        obtain ⟨hi186, hw⟩ := hw
        refine va_sld hx hb hX hbl hbA hS hi186 (xb_d D_Law_law 483 rfl) ?_
        refine lv_aload_n hx hb (xb_d D_Law_law 484 rfl) rfl (lv_at hl 0 rfl) ?_
        refine lv_iload hx hb (xb_d D_Law_law 485 rfl) (lv_at hl 4 rfl) ?_
        refine lv_iconst (v := 2) hx hb (xb_d D_Law_law 486 rfl) (by decide) ?_
        refine lv_iadd hx hb (xb_d D_Law_law 487 rfl) ?_
        obtain ⟨hi187, hw⟩ := hw
        refine va_sld hx hb hX hbl hbA hS hi187 (xb_d D_Law_law 488 rfl) ?_
        refine lv_aload_n hx hb (xb_d D_Law_law 489 rfl) rfl (lv_at hl 3 rfl) ?_
        refine xb_call (D := D) (A := A) (σ := σ) (h := h) (d := 4) (mc := bc) (ms := bs) (maxL := 5) (rest := []) (av := [.ref x1, .int (xs (Int32.toNatClampNeg (x4 + 1))), .int (xs (Int32.toNatClampNeg (x4 + 2))), .ref x3]) (fun T hT X => xt_invS X hx hown (hts _ m_44a73821) (hts _ m_29d2e7ef) (hts _ m_6445b362) (xt_sgSH (hts _ m_b0ca8295)).1 (xt_sgSH (hts _ m_b0ca8295)).2 nm_Law_variable (g := F0 m 841 ls [.ref x3, .int (xs (Int32.toNatClampNeg (x4 + 2))), .int (xs (Int32.toNatClampNeg (x4 + 1))), .ref x1]) rfl (argsL := [.ref x1, .int (xs (Int32.toNatClampNeg (x4 + 1))), .int (xs (Int32.toNatClampNeg (x4 + 2))), .ref x3]) (rest := []) rfl rfl (by rw [hb]; exact (xb_d D_Law_law 490 rfl))) (ok_Law_variable l hfl D A σ x1 (xs (Int32.toNatClampNeg (x4 + 1))) (xs (Int32.toNatClampNeg (x4 + 2))) x3 h bc bs _ hw) (hml.trans hl.1.symm) (by rw [hb]; exact (xb_d D_Law_law 490 rfl)) (Nat.le_of_ble_eq_true rfl) (Nat.le_of_ble_eq_true rfl) (Nat.le_of_ble_eq_true rfl) (show k + bc ≤ MC by omega) (show n + bs ≤ MS by omega) (xt_w1 hB.1 m_b0ca8295) (xt_cdOfH hB.1 m_b0ca8295) (hts _ m_6445b362) hB hR hS hA (fun vv h188 bc189 bs189 kk189 nn189 H locs hk189 hn189 hq hEh188 hR hS => ?_) (fun XX ax h188 bc189 bs189 kk189 nn189 H locs hk189 hn189 hq hEh188 hex hR hS => ?_)
        · obtain ⟨r189, rfl, hw⟩ := hq
          have hw := hw hEh188
          have hE := hE.tr hEh188
          refine W.eq (g2 := F0 m 844 ls [.int r189]) rfl ?_
          refine lv_istore hx hb (xb_d D_Law_law 491 rfl) hl (by decide) rfl (fun ls hl => ?_)
          have hl : lv_has ls 8 [(5, .int r189), (0, .ref x0), (1, .ref x1), (2, .ref x2), (3, .ref x3), (4, .int x4)] := hl
          refine lv_aload_n hx hb (xb_d D_Law_law 492 rfl) rfl (lv_at hl 3 rfl) ?_
          refine lv_aload_n hx hb (xb_d D_Law_law 493 rfl) rfl (lv_at hl 1 rfl) ?_
          refine lv_iload hx hb (xb_d D_Law_law 494 rfl) (lv_at hl 5 rfl) ?_
          refine lv_iconst (v := 1) hx hb (xb_d D_Law_law 495 rfl) (by decide) ?_
          refine lv_iadd hx hb (xb_d D_Law_law 496 rfl) ?_
          obtain ⟨hi190, hw⟩ := hw
          refine va_sld hx hb hX hbl hbA hS hi190 (xb_d D_Law_law 497 rfl) ?_
          refine lv_aload_n hx hb (xb_d D_Law_law 498 rfl) rfl (lv_at hl 1 rfl) ?_
          refine lv_iload hx hb (xb_d D_Law_law 499 rfl) (lv_at hl 5 rfl) ?_
          refine lv_iconst (v := 2) hx hb (xb_d D_Law_law 500 rfl) (by decide) ?_
          refine lv_iadd hx hb (xb_d D_Law_law 501 rfl) ?_
          obtain ⟨hi191, hw⟩ := hw
          refine va_sld hx hb hX hbl hbA hS hi191 (xb_d D_Law_law 502 rfl) ?_
          obtain ⟨hk192, hw⟩ := hw
          refine xb_call0 (D := D) (A := A) (σ := σ) (h := h188) (d := 9) (maxL := 3) (rest := []) (av := [.ref x2, .int (xs (Int32.toNatClampNeg (x4 + 1))), .int (xs (Int32.toNatClampNeg (x4 + 2)))]) (fun T hT X => by obtain ⟨cb9, ra9, rb9, rc9⟩ := xb_recv (ci := 8) hR rfl hk192 (by decide); exact xt_invV X hx hown (hts _ m_626ec105) (hts _ m_f3c40a50) (hts _ m_aa28356f) (xt_sigOf (hts _ m_476d6619)) nm_M_variable (by rw [hT]; exact ra9) rb9 rc9 (g := F0 m 859 ls [.int (xs (Int32.toNatClampNeg (x4 + 2))), .int (xs (Int32.toNatClampNeg (x4 + 1))), .ref x2]) rfl (argsL := [.int (xs (Int32.toNatClampNeg (x4 + 1))), .int (xs (Int32.toNatClampNeg (x4 + 2)))]) (rest := []) rfl rfl (by rw [hb]; exact (xb_d D_Law_law 503 rfl))) (ok_M_variable l hfl D A σ x2 (xs (Int32.toNatClampNeg (x4 + 1))) (xs (Int32.toNatClampNeg (x4 + 2))) h188 _ hw) (hml.trans hl.1.symm) (by rw [hb]; exact (xb_d D_Law_law 503 rfl)) (Nat.le_of_ble_eq_true rfl) (Nat.le_of_ble_eq_true rfl) (Nat.le_of_ble_eq_true rfl) (show (k + kk189) ≤ MC by omega) (show (n + nn189) ≤ MS by omega) (xt_w1 hB.1 m_476d6619) (xt_cdOf hB.1 m_476d6619) (hts _ m_d5ed7bed) hB hR hS hA (fun vv h193 H locs hq hEh193 hR hS => ?_)
          obtain ⟨r194, rfl, hw⟩ := hq
          have hw := hw hEh193
          have hE := hE.tr hEh193
          refine W.eq (g2 := F0 m 862 ls [.long r194]) rfl ?_
          refine lv_lstore hx hb (xb_d D_Law_law 504 rfl) hl (by decide) rfl (fun ls hl => ?_)
          have hl : lv_has ls 8 [(6, .long r194), (5, .int r189), (0, .ref x0), (1, .ref x1), (2, .ref x2), (3, .ref x3), (4, .int x4)] := hl
          refine lv_goto (tgt := 974) hx hb (xb_d D_Law_law 505 rfl) rfl ?_
          exact am_Law_law_L974 l hfl D A σ L xs MC MS h0 Qr (w2_Law_law_L23 σ L xs Qr n9) ih x0 x1 x2 x3 x4 h193 bc189 bs189 hw p e s m args below meth c hC hX9 H locs ls (k + kk189) (n + nn189) hE (lv_sub hl [2, 3, 4, 5, 6] rfl) hR hS (by omega) (by omega)
        · exact False.elim hq
      have hw := hw.2
      by_cases hc195 : ((xs (Int32.toNatClampNeg x4)) &&& 31) = 21
      · have hw := hw.1 hc195
        refine xt_numi hc195 ?_
        refine lv_tableIn (off := 827) (tgt := 867) hx hb (xb_d D_Law_law 24 rfl) (by decide +kernel) (by decide +kernel) (by decide +kernel) (by decide) ?_
        refine lv_aload_n hx hb (xb_d D_Law_law 506 rfl) rfl (lv_at hl 1 rfl) ?_
        refine lv_aload_n hx hb (xb_d D_Law_law 507 rfl) rfl (lv_at hl 0 rfl) ?_
        refine lv_iload hx hb (xb_d D_Law_law 508 rfl) (lv_at hl 4 rfl) ?_
        refine lv_iconst (v := 1) hx hb (xb_d D_Law_law 509 rfl) (by decide) ?_
        refine lv_iadd hx hb (xb_d D_Law_law 510 rfl) ?_
        obtain ⟨hi196, hw⟩ := hw
        refine va_sld hx hb hX hbl hbA hS hi196 (xb_d D_Law_law 511 rfl) ?_
        refine lv_aload_n hx hb (xb_d D_Law_law 512 rfl) rfl (lv_at hl 0 rfl) ?_
        refine lv_iload hx hb (xb_d D_Law_law 513 rfl) (lv_at hl 4 rfl) ?_
        refine lv_iconst (v := 2) hx hb (xb_d D_Law_law 514 rfl) (by decide) ?_
        refine lv_iadd hx hb (xb_d D_Law_law 515 rfl) ?_
        obtain ⟨hi197, hw⟩ := hw
        refine va_sld hx hb hX hbl hbA hS hi197 (xb_d D_Law_law 516 rfl) ?_
        refine lv_aload_n hx hb (xb_d D_Law_law 517 rfl) rfl (lv_at hl 3 rfl) ?_
        refine xb_call (D := D) (A := A) (σ := σ) (h := h) (d := 5) (mc := bc) (ms := bs) (maxL := 5) (rest := []) (av := [.ref x1, .int (xs (Int32.toNatClampNeg (x4 + 1))), .int (xs (Int32.toNatClampNeg (x4 + 2))), .ref x3]) (fun T hT X => xt_invS X hx hown (hts _ m_10dd7f11) (hts _ m_b2c75aa2) (hts _ m_6445b362) (xt_sgSH (hts _ m_28067eb6)).1 (xt_sgSH (hts _ m_28067eb6)).2 nm_Law_element (g := F0 m 881 ls [.ref x3, .int (xs (Int32.toNatClampNeg (x4 + 2))), .int (xs (Int32.toNatClampNeg (x4 + 1))), .ref x1]) rfl (argsL := [.ref x1, .int (xs (Int32.toNatClampNeg (x4 + 1))), .int (xs (Int32.toNatClampNeg (x4 + 2))), .ref x3]) (rest := []) rfl rfl (by rw [hb]; exact (xb_d D_Law_law 518 rfl))) (ok_Law_element l hfl D A σ x1 (xs (Int32.toNatClampNeg (x4 + 1))) (xs (Int32.toNatClampNeg (x4 + 2))) x3 h bc bs _ hw) (hml.trans hl.1.symm) (by rw [hb]; exact (xb_d D_Law_law 518 rfl)) (Nat.le_of_ble_eq_true rfl) (Nat.le_of_ble_eq_true rfl) (Nat.le_of_ble_eq_true rfl) (show k + bc ≤ MC by omega) (show n + bs ≤ MS by omega) (xt_w1 hB.1 m_28067eb6) (xt_cdOfH hB.1 m_28067eb6) (hts _ m_6445b362) hB hR hS hA (fun vv h198 bc199 bs199 kk199 nn199 H locs hk199 hn199 hq hEh198 hR hS => ?_) (fun XX ax h198 bc199 bs199 kk199 nn199 H locs hk199 hn199 hq hEh198 hex hR hS => ?_)
        · obtain ⟨r199, rfl, hw⟩ := hq
          have hw := hw hEh198
          have hE := hE.tr hEh198
          refine W.eq (g2 := F0 m 884 ls [.int r199]) rfl ?_
          refine lv_istore hx hb (xb_d D_Law_law 519 rfl) hl (by decide) rfl (fun ls hl => ?_)
          have hl : lv_has ls 8 [(5, .int r199), (0, .ref x0), (1, .ref x1), (2, .ref x2), (3, .ref x3), (4, .int x4)] := hl
          refine lv_aload_n hx hb (xb_d D_Law_law 520 rfl) rfl (lv_at hl 3 rfl) ?_
          refine lv_aload_n hx hb (xb_d D_Law_law 521 rfl) rfl (lv_at hl 1 rfl) ?_
          refine lv_iload hx hb (xb_d D_Law_law 522 rfl) (lv_at hl 5 rfl) ?_
          refine lv_iconst (v := 1) hx hb (xb_d D_Law_law 523 rfl) (by decide) ?_
          refine lv_iadd hx hb (xb_d D_Law_law 524 rfl) ?_
          obtain ⟨hi200, hw⟩ := hw
          refine va_sld hx hb hX hbl hbA hS hi200 (xb_d D_Law_law 525 rfl) ?_
          refine lv_aload_n hx hb (xb_d D_Law_law 526 rfl) rfl (lv_at hl 1 rfl) ?_
          refine lv_iload hx hb (xb_d D_Law_law 527 rfl) (lv_at hl 5 rfl) ?_
          refine lv_iconst (v := 2) hx hb (xb_d D_Law_law 528 rfl) (by decide) ?_
          refine lv_iadd hx hb (xb_d D_Law_law 529 rfl) ?_
          obtain ⟨hi201, hw⟩ := hw
          refine va_sld hx hb hX hbl hbA hS hi201 (xb_d D_Law_law 530 rfl) ?_
          obtain ⟨hk202, hw⟩ := hw
          refine xb_call0 (D := D) (A := A) (σ := σ) (h := h198) (d := 10) (maxL := 5) (rest := []) (av := [.ref x2, .int (xs (Int32.toNatClampNeg (x4 + 1))), .int (xs (Int32.toNatClampNeg (x4 + 2)))]) (fun T hT X => by obtain ⟨cb9, ra9, rb9, rc9⟩ := xb_recv (ci := 8) hR rfl hk202 (by decide); exact xt_invV X hx hown (hts _ m_d4a32f5a) (hts _ m_d10d7564) (hts _ m_03e7aa3d) (xt_sigOf (hts _ m_bf8b0a28)) nm_M_element (by rw [hT]; exact ra9) rb9 rc9 (g := F0 m 899 ls [.int (xs (Int32.toNatClampNeg (x4 + 2))), .int (xs (Int32.toNatClampNeg (x4 + 1))), .ref x2]) rfl (argsL := [.int (xs (Int32.toNatClampNeg (x4 + 1))), .int (xs (Int32.toNatClampNeg (x4 + 2)))]) (rest := []) rfl rfl (by rw [hb]; exact (xb_d D_Law_law 531 rfl))) (ok_M_element l hfl D A σ x2 (xs (Int32.toNatClampNeg (x4 + 1))) (xs (Int32.toNatClampNeg (x4 + 2))) h198 _ hw) (hml.trans hl.1.symm) (by rw [hb]; exact (xb_d D_Law_law 531 rfl)) (Nat.le_of_ble_eq_true rfl) (Nat.le_of_ble_eq_true rfl) (Nat.le_of_ble_eq_true rfl) (show (k + kk199) ≤ MC by omega) (show (n + nn199) ≤ MS by omega) (xt_w1 hB.1 m_bf8b0a28) (xt_cdOf hB.1 m_bf8b0a28) (hts _ m_d5ed7bed) hB hR hS hA (fun vv h203 H locs hq hEh203 hR hS => ?_)
          obtain ⟨r204, rfl, hw⟩ := hq
          have hw := hw hEh203
          have hE := hE.tr hEh203
          refine W.eq (g2 := F0 m 902 ls [.int r204]) rfl ?_
          refine lv_istore hx hb (xb_d D_Law_law 532 rfl) hl (by decide) rfl (fun ls hl => ?_)
          have hl : lv_has ls 8 [(6, .int r204), (5, .int r199), (0, .ref x0), (1, .ref x1), (2, .ref x2), (3, .ref x3), (4, .int x4)] := hl
          refine lv_goto (tgt := 974) hx hb (xb_d D_Law_law 533 rfl) rfl ?_
          exact am_Law_law_L974 l hfl D A σ L xs MC MS h0 Qr (w2_Law_law_L23 σ L xs Qr n9) ih x0 x1 x2 x3 x4 h203 bc199 bs199 hw p e s m args below meth c hC hX9 H locs ls (k + kk199) (n + nn199) hE (lv_sub hl [2, 3, 4, 5, 6] rfl) hR hS (by omega) (by omega)
        · exact False.elim hq
      have hw := hw.2
      by_cases hc205 : ((xs (Int32.toNatClampNeg x4)) &&& 31) = 22
      · have hw := hw.1 hc205
        refine xt_numi hc205 ?_
        refine lv_tableIn (off := 867) (tgt := 907) hx hb (xb_d D_Law_law 24 rfl) (by decide +kernel) (by decide +kernel) (by decide +kernel) (by decide) ?_
        refine lv_aload_n hx hb (xb_d D_Law_law 534 rfl) rfl (lv_at hl 1 rfl) ?_
        obtain ⟨hk206, hw⟩ := hw
        refine xb_call0 (D := D) (A := A) (σ := σ) (h := h) (d := 2) (maxL := 1) (rest := []) (av := [.ref x1]) (fun T hT X => by obtain ⟨cb9, ra9, rb9, rc9⟩ := xb_recv (ci := 0) hR rfl hk206 (by decide); exact xt_invV X hx hown (hts _ m_8689c3c3) (hts _ m_9694c8f9) (hts _ m_ad7f2fdc) (xt_sigOf (hts _ m_dbbe4ed2)) nm_H_wrong (by rw [hT]; exact ra9) rb9 rc9 (g := F0 m 908 ls [.ref x1]) rfl (argsL := []) (rest := []) rfl rfl (by rw [hb]; exact (xb_d D_Law_law 535 rfl))) (ok_H_wrong l hfl D A σ x1 h _ hw) (hml.trans hl.1.symm) (by rw [hb]; exact (xb_d D_Law_law 535 rfl)) (Nat.le_of_ble_eq_true rfl) (Nat.le_of_ble_eq_true rfl) (Nat.le_of_ble_eq_true rfl) (show k ≤ MC by omega) (show n ≤ MS by omega) (xt_w1 hB.1 m_dbbe4ed2) (xt_cdOf hB.1 m_dbbe4ed2) (hts _ m_ba0734f5) hB hR hS hA (fun vv h207 H locs hq hEh207 hR hS => ?_)
        obtain ⟨r208, rfl, hw⟩ := hq
        have hw := hw hEh207
        have hE := hE.tr hEh207
        refine W.eq (g2 := F0 m 911 ls [.int r208]) rfl ?_
        refine lv_aload_n hx hb (xb_d D_Law_law 536 rfl) rfl (lv_at hl 2 rfl) ?_
        obtain ⟨hk209, hw⟩ := hw
        refine xb_call0 (D := D) (A := A) (σ := σ) (h := h207) (d := 2) (maxL := 1) (rest := [.int r208]) (av := [.ref x2]) (fun T hT X => by obtain ⟨cb9, ra9, rb9, rc9⟩ := xb_recv (ci := 8) hR rfl hk209 (by decide); exact xt_invV X hx hown (hts _ m_8657e733) (hts _ m_7fd08512) (hts _ m_b1a62b1d) (xt_sigOf (hts _ m_76c8c6f8)) nm_M_wrong (by rw [hT]; exact ra9) rb9 rc9 (g := F0 m 912 ls [.ref x2, .int r208]) rfl (argsL := []) (rest := [.int r208]) rfl rfl (by rw [hb]; exact (xb_d D_Law_law 537 rfl))) (ok_M_wrong l hfl D A σ x2 h207 _ hw) (hml.trans hl.1.symm) (by rw [hb]; exact (xb_d D_Law_law 537 rfl)) (Nat.le_of_ble_eq_true rfl) (Nat.le_of_ble_eq_true rfl) (Nat.le_of_ble_eq_true rfl) (show k ≤ MC by omega) (show n ≤ MS by omega) (xt_w1 hB.1 m_76c8c6f8) (xt_cdOf hB.1 m_76c8c6f8) (hts _ m_d5ed7bed) hB hR hS hA (fun vv h210 H locs hq hEh210 hR hS => ?_)
        obtain ⟨r211, rfl, hw⟩ := hq
        have hw := hw hEh210
        have hE := hE.tr hEh210
        refine W.eq (g2 := F0 m 915 ls [.int r211, .int r208]) rfl ?_
        refine lv_icmp_eq (tgt := 974) hx hb (xb_d D_Law_law 538 rfl) rfl (fun hc212 => ?_) (fun hc212 => ?_)
        · have hw := hw.1 hc212
          exact am_Law_law_L974 l hfl D A σ L xs MC MS h0 Qr (w2_Law_law_L23 σ L xs Qr n9) ih x0 x1 x2 x3 x4 h210 bc bs hw p e s m args below meth c hC hX9 H locs ls k n hE (lv_sub hl [0, 1, 2, 3, 4] rfl) hR hS (by omega) (by omega)
        · have hw := hw.2 hc212
          refine lv_iconst (v := 0) hx hb (xb_d D_Law_law 539 rfl) (by decide) ?_
          exact xb_zret bc bs hx hb hr hlocks (show k + bc ≤ MC by omega) (show n + bs ≤ MS by omega) (by decide) hE hR hS (xb_d D_Law_law 540 rfl) hw
      have hw := hw.2
      by_cases hc213 : ((xs (Int32.toNatClampNeg x4)) &&& 31) = 23
      · have hw := hw.1 hc213
        refine xt_numi hc213 ?_
        refine lv_tableIn (off := 880) (tgt := 920) hx hb (xb_d D_Law_law 24 rfl) (by decide +kernel) (by decide +kernel) (by decide +kernel) (by decide) ?_
        refine lv_aload_n hx hb (xb_d D_Law_law 541 rfl) rfl (lv_at hl 1 rfl) ?_
        obtain ⟨hk214, hw⟩ := hw
        refine xb_call0 (D := D) (A := A) (σ := σ) (h := h) (d := 2) (maxL := 1) (rest := []) (av := [.ref x1]) (fun T hT X => by obtain ⟨cb9, ra9, rb9, rc9⟩ := xb_recv (ci := 0) hR rfl hk214 (by decide); exact xt_invV X hx hown (hts _ m_84047646) (hts _ m_9b2b2da6) (hts _ m_6177b437) (xt_sigOf (hts _ m_c07d7f52)) nm_H_outs (by rw [hT]; exact ra9) rb9 rc9 (g := F0 m 921 ls [.ref x1]) rfl (argsL := []) (rest := []) rfl rfl (by rw [hb]; exact (xb_d D_Law_law 542 rfl))) (ok_H_outs l hfl D A σ x1 h _ hw) (hml.trans hl.1.symm) (by rw [hb]; exact (xb_d D_Law_law 542 rfl)) (Nat.le_of_ble_eq_true rfl) (Nat.le_of_ble_eq_true rfl) (Nat.le_of_ble_eq_true rfl) (show k ≤ MC by omega) (show n ≤ MS by omega) (xt_w1 hB.1 m_c07d7f52) (xt_cdOf hB.1 m_c07d7f52) (hts _ m_ba0734f5) hB hR hS hA (fun vv h215 H locs hq hEh215 hR hS => ?_)
        obtain ⟨r216, rfl, hw⟩ := hq
        have hw := hw hEh215
        have hE := hE.tr hEh215
        refine W.eq (g2 := F0 m 924 ls [.int r216]) rfl ?_
        refine lv_pop hx hb (xb_d D_Law_law 543 rfl) rfl ?_
        refine lv_aload_n hx hb (xb_d D_Law_law 544 rfl) rfl (lv_at hl 2 rfl) ?_
        obtain ⟨hk217, hw⟩ := hw
        refine xb_call0 (D := D) (A := A) (σ := σ) (h := h215) (d := 2) (maxL := 1) (rest := []) (av := [.ref x2]) (fun T hT X => by obtain ⟨cb9, ra9, rb9, rc9⟩ := xb_recv (ci := 8) hR rfl hk217 (by decide); exact xt_invV X hx hown (hts _ m_565a38f7) (hts _ m_e4ab615e) (hts _ m_ae7bd9ff) (xt_sigOf (hts _ m_2e052e5c)) nm_M_outs (by rw [hT]; exact ra9) rb9 rc9 (g := F0 m 926 ls [.ref x2]) rfl (argsL := []) (rest := []) rfl rfl (by rw [hb]; exact (xb_d D_Law_law 545 rfl))) (ok_M_outs l hfl D A σ x2 h215 _ hw) (hml.trans hl.1.symm) (by rw [hb]; exact (xb_d D_Law_law 545 rfl)) (Nat.le_of_ble_eq_true rfl) (Nat.le_of_ble_eq_true rfl) (Nat.le_of_ble_eq_true rfl) (show k ≤ MC by omega) (show n ≤ MS by omega) (xt_w1 hB.1 m_2e052e5c) (xt_cdOf hB.1 m_2e052e5c) (hts _ m_d5ed7bed) hB hR hS hA (fun vv h218 H locs hq hEh218 hR hS => ?_)
        obtain ⟨r219, rfl, hw⟩ := hq
        have hw := hw hEh218
        have hE := hE.tr hEh218
        refine W.eq (g2 := F0 m 929 ls [.int r219]) rfl ?_
        refine lv_pop hx hb (xb_d D_Law_law 546 rfl) rfl ?_
        refine lv_goto (tgt := 974) hx hb (xb_d D_Law_law 547 rfl) rfl ?_
        exact am_Law_law_L974 l hfl D A σ L xs MC MS h0 Qr (w2_Law_law_L23 σ L xs Qr n9) ih x0 x1 x2 x3 x4 h218 bc bs hw p e s m args below meth c hC hX9 H locs ls k n hE (lv_sub hl [0, 1, 2, 3, 4] rfl) hR hS (by omega) (by omega)
      have hw := hw.2
      by_cases hc220 : ((xs (Int32.toNatClampNeg x4)) &&& 31) = 24
      · have hw := hw.1 hc220
        refine xt_numi hc220 ?_
        refine lv_tableIn (off := 893) (tgt := 933) hx hb (xb_d D_Law_law 24 rfl) (by decide +kernel) (by decide +kernel) (by decide +kernel) (by decide) ?_
        refine lv_aload_n hx hb (xb_d D_Law_law 548 rfl) rfl (lv_at hl 1 rfl) ?_
        refine lv_aload_n hx hb (xb_d D_Law_law 549 rfl) rfl (lv_at hl 0 rfl) ?_
        refine lv_iload hx hb (xb_d D_Law_law 550 rfl) (lv_at hl 4 rfl) ?_
        refine lv_iconst (v := 1) hx hb (xb_d D_Law_law 551 rfl) (by decide) ?_
        refine lv_iadd hx hb (xb_d D_Law_law 552 rfl) ?_
        obtain ⟨hi221, hw⟩ := hw
        refine va_sld hx hb hX hbl hbA hS hi221 (xb_d D_Law_law 553 rfl) ?_
        refine lv_aload_n hx hb (xb_d D_Law_law 554 rfl) rfl (lv_at hl 3 rfl) ?_
        refine xb_call (D := D) (A := A) (σ := σ) (h := h) (d := 3) (mc := bc) (ms := bs) (maxL := 4) (rest := []) (av := [.ref x1, .int (xs (Int32.toNatClampNeg (x4 + 1))), .ref x3]) (fun T hT X => xt_invS X hx hown (hts _ m_366ac763) (hts _ m_81c46ed3) (hts _ m_6445b362) (xt_sgSH (hts _ m_84a3017b)).1 (xt_sgSH (hts _ m_84a3017b)).2 nm_Law_out (g := F0 m 941 ls [.ref x3, .int (xs (Int32.toNatClampNeg (x4 + 1))), .ref x1]) rfl (argsL := [.ref x1, .int (xs (Int32.toNatClampNeg (x4 + 1))), .ref x3]) (rest := []) rfl rfl (by rw [hb]; exact (xb_d D_Law_law 555 rfl))) (ok_Law_out l hfl D A σ x1 (xs (Int32.toNatClampNeg (x4 + 1))) x3 h bc bs _ hw) (hml.trans hl.1.symm) (by rw [hb]; exact (xb_d D_Law_law 555 rfl)) (Nat.le_of_ble_eq_true rfl) (Nat.le_of_ble_eq_true rfl) (Nat.le_of_ble_eq_true rfl) (show k + bc ≤ MC by omega) (show n + bs ≤ MS by omega) (xt_w1 hB.1 m_84a3017b) (xt_cdOfH hB.1 m_84a3017b) (hts _ m_6445b362) hB hR hS hA (fun vv h222 bc223 bs223 kk223 nn223 H locs hk223 hn223 hq hEh222 hR hS => ?_) (fun XX ax h222 bc223 bs223 kk223 nn223 H locs hk223 hn223 hq hEh222 hex hR hS => ?_)
        · obtain ⟨r223, rfl, hw⟩ := hq
          have hw := hw hEh222
          have hE := hE.tr hEh222
          refine W.eq (g2 := F0 m 944 ls [.int r223]) rfl ?_
          refine lv_istore hx hb (xb_d D_Law_law 556 rfl) hl (by decide) rfl (fun ls hl => ?_)
          have hl : lv_has ls 8 [(5, .int r223), (0, .ref x0), (1, .ref x1), (2, .ref x2), (3, .ref x3), (4, .int x4)] := hl
          refine lv_aload_n hx hb (xb_d D_Law_law 557 rfl) rfl (lv_at hl 3 rfl) ?_
          refine lv_aload_n hx hb (xb_d D_Law_law 558 rfl) rfl (lv_at hl 1 rfl) ?_
          refine lv_iload hx hb (xb_d D_Law_law 559 rfl) (lv_at hl 5 rfl) ?_
          refine lv_iconst (v := 1) hx hb (xb_d D_Law_law 560 rfl) (by decide) ?_
          refine lv_iadd hx hb (xb_d D_Law_law 561 rfl) ?_
          obtain ⟨hi224, hw⟩ := hw
          refine va_sld hx hb hX hbl hbA hS hi224 (xb_d D_Law_law 562 rfl) ?_
          obtain ⟨hk225, hw⟩ := hw
          refine xb_call0 (D := D) (A := A) (σ := σ) (h := h222) (d := 2) (maxL := 2) (rest := []) (av := [.ref x2, .int (xs (Int32.toNatClampNeg (x4 + 1)))]) (fun T hT X => by obtain ⟨cb9, ra9, rb9, rc9⟩ := xb_recv (ci := 8) hR rfl hk225 (by decide); exact xt_invV X hx hown (hts _ m_25ca7fd2) (hts _ m_52e25b4a) (hts _ m_a2135ad2) (xt_sigOf (hts _ m_37881f5c)) nm_M_out (by rw [hT]; exact ra9) rb9 rc9 (g := F0 m 953 ls [.int (xs (Int32.toNatClampNeg (x4 + 1))), .ref x2]) rfl (argsL := [.int (xs (Int32.toNatClampNeg (x4 + 1)))]) (rest := []) rfl rfl (by rw [hb]; exact (xb_d D_Law_law 563 rfl))) (ok_M_out l hfl D A σ x2 (xs (Int32.toNatClampNeg (x4 + 1))) h222 _ hw) (hml.trans hl.1.symm) (by rw [hb]; exact (xb_d D_Law_law 563 rfl)) (Nat.le_of_ble_eq_true rfl) (Nat.le_of_ble_eq_true rfl) (Nat.le_of_ble_eq_true rfl) (show (k + kk223) ≤ MC by omega) (show (n + nn223) ≤ MS by omega) (xt_w1 hB.1 m_37881f5c) (xt_cdOf hB.1 m_37881f5c) (hts _ m_d5ed7bed) hB hR hS hA (fun vv h226 H locs hq hEh226 hR hS => ?_)
          obtain ⟨r227, rfl, hw⟩ := hq
          have hw := hw hEh226
          have hE := hE.tr hEh226
          refine W.eq (g2 := F0 m 956 ls [.long r227]) rfl ?_
          refine lv_lstore hx hb (xb_d D_Law_law 564 rfl) hl (by decide) rfl (fun ls hl => ?_)
          have hl : lv_has ls 8 [(6, .long r227), (5, .int r223), (0, .ref x0), (1, .ref x1), (2, .ref x2), (3, .ref x3), (4, .int x4)] := hl
          refine lv_goto (tgt := 974) hx hb (xb_d D_Law_law 565 rfl) rfl ?_
          exact am_Law_law_L974 l hfl D A σ L xs MC MS h0 Qr (w2_Law_law_L23 σ L xs Qr n9) ih x0 x1 x2 x3 x4 h226 bc223 bs223 hw p e s m args below meth c hC hX9 H locs ls (k + kk223) (n + nn223) hE (lv_sub hl [2, 3, 4, 5, 6] rfl) hR hS (by omega) (by omega)
        · exact False.elim hq
      have hw := hw.2
      by_cases hc228 : ((xs (Int32.toNatClampNeg x4)) &&& 31) = 25
      · have hw := hw.1 hc228
        refine xt_numi hc228 ?_
        refine lv_tableIn (off := 921) (tgt := 961) hx hb (xb_d D_Law_law 24 rfl) (by decide +kernel) (by decide +kernel) (by decide +kernel) (by decide) ?_
        refine lv_aload_n hx hb (xb_d D_Law_law 566 rfl) rfl (lv_at hl 1 rfl) ?_
        obtain ⟨hk229, hw⟩ := hw
        refine xb_call0 (D := D) (A := A) (σ := σ) (h := h) (d := 2) (maxL := 2) (rest := []) (av := [.ref x1]) (fun T hT X => by obtain ⟨cb9, ra9, rb9, rc9⟩ := xb_recv (ci := 0) hR rfl hk229 (by decide); exact xt_invV X hx hown (hts _ m_6755f50b) (hts _ m_a4bf6225) (hts _ m_52e78cdd) (xt_sigOf (hts _ m_85b6a32c)) nm_H_clear (by rw [hT]; exact ra9) rb9 rc9 (g := F0 m 962 ls [.ref x1]) rfl (argsL := []) (rest := []) rfl rfl (by rw [hb]; exact (xb_d D_Law_law 567 rfl))) (ok_H_clear l hfl D A σ x1 h _ hw) (hml.trans hl.1.symm) (by rw [hb]; exact (xb_d D_Law_law 567 rfl)) (Nat.le_of_ble_eq_true rfl) (Nat.le_of_ble_eq_true rfl) (Nat.le_of_ble_eq_true rfl) (show k ≤ MC by omega) (show n ≤ MS by omega) (xt_w1 hB.1 m_85b6a32c) (xt_cdOf hB.1 m_85b6a32c) (hts _ m_ba0734f5) hB hR hS hA (fun vv h230 H locs hq hEh230 hR hS => ?_)
        obtain ⟨r231, rfl, hw⟩ := hq
        have hw := hw hEh230
        have hE := hE.tr hEh230
        refine W.eq (g2 := F0 m 965 ls [.int r231]) rfl ?_
        refine lv_pop hx hb (xb_d D_Law_law 568 rfl) rfl ?_
        refine lv_aload_n hx hb (xb_d D_Law_law 569 rfl) rfl (lv_at hl 2 rfl) ?_
        obtain ⟨hk232, hw⟩ := hw
        refine xb_call0 (D := D) (A := A) (σ := σ) (h := h230) (d := 2) (maxL := 2) (rest := []) (av := [.ref x2]) (fun T hT X => by obtain ⟨cb9, ra9, rb9, rc9⟩ := xb_recv (ci := 8) hR rfl hk232 (by decide); exact xt_invV X hx hown (hts _ m_595aa577) (hts _ m_3673e0eb) (hts _ m_d69041fc) (xt_sigOf (hts _ m_a68dea8a)) nm_M_clear (by rw [hT]; exact ra9) rb9 rc9 (g := F0 m 967 ls [.ref x2]) rfl (argsL := []) (rest := []) rfl rfl (by rw [hb]; exact (xb_d D_Law_law 570 rfl))) (ok_M_clear l hfl D A σ x2 h230 _ hw) (hml.trans hl.1.symm) (by rw [hb]; exact (xb_d D_Law_law 570 rfl)) (Nat.le_of_ble_eq_true rfl) (Nat.le_of_ble_eq_true rfl) (Nat.le_of_ble_eq_true rfl) (show k ≤ MC by omega) (show n ≤ MS by omega) (xt_w1 hB.1 m_a68dea8a) (xt_cdOf hB.1 m_a68dea8a) (hts _ m_d5ed7bed) hB hR hS hA (fun vv h233 H locs hq hEh233 hR hS => ?_)
        obtain ⟨r234, rfl, hw⟩ := hq
        have hw := hw hEh233
        have hE := hE.tr hEh233
        refine W.eq (g2 := F0 m 970 ls [.int r234]) rfl ?_
        refine lv_pop hx hb (xb_d D_Law_law 571 rfl) rfl ?_
        refine lv_goto (tgt := 974) hx hb (xb_d D_Law_law 572 rfl) rfl ?_
        exact am_Law_law_L974 l hfl D A σ L xs MC MS h0 Qr (w2_Law_law_L23 σ L xs Qr n9) ih x0 x1 x2 x3 x4 h233 bc bs hw p e s m args below meth c hC hX9 H locs ls k n hE (lv_sub hl [0, 1, 2, 3, 4] rfl) hR hS (by omega) (by omega)
      have hw := hw.2
      have hw := hw hc4 hc20 hc28 hc34 hc42 hc52 hc62 hc70 hc78 hc86 hc98 hc108 hc118 hc126 hc133 hc140 hc147 hc155 hc163 hc173 hc185 hc195 hc205 hc213 hc220 hc228
      refine lv_tableOut (tgt := 974) hx hb (xb_d D_Law_law 24 rfl) (by have a0 := xb_nl (0) 0 (by decide) hc4; have a1 := xb_nl (1) 1 (by decide) hc20; have a2 := xb_nl (2) 2 (by decide) hc28; have a3 := xb_nl (3) 3 (by decide) hc34; have a4 := xb_nl (4) 4 (by decide) hc42; have a5 := xb_nl (5) 5 (by decide) hc52; have a6 := xb_nl (6) 6 (by decide) hc62; have a7 := xb_nl (7) 7 (by decide) hc70; have a8 := xb_nl (8) 8 (by decide) hc78; have a9 := xb_nl (9) 9 (by decide) hc86; have a10 := xb_nl (10) 10 (by decide) hc98; have a11 := xb_nl (11) 11 (by decide) hc108; have a12 := xb_nl (12) 12 (by decide) hc118; have a13 := xb_nl (13) 13 (by decide) hc126; have a14 := xb_nl (14) 14 (by decide) hc133; have a15 := xb_nl (15) 15 (by decide) hc140; have a16 := xb_nl (16) 16 (by decide) hc147; have a17 := xb_nl (17) 17 (by decide) hc155; have a18 := xb_nl (18) 18 (by decide) hc163; have a19 := xb_nl (19) 19 (by decide) hc173; have a20 := xb_nl (20) 20 (by decide) hc185; have a21 := xb_nl (21) 21 (by decide) hc195; have a22 := xb_nl (22) 22 (by decide) hc205; have a23 := xb_nl (23) 23 (by decide) hc213; have a24 := xb_nl (24) 24 (by decide) hc220; have a25 := xb_nl (25) 25 (by decide) hc228; omega) (by decide) ?_
      exact am_Law_law_L974 l hfl D A σ L xs MC MS h0 Qr (w2_Law_law_L23 σ L xs Qr n9) ih x0 x1 x2 x3 x4 h bc bs hw p e s m args below meth c hC hX9 H locs ls k n hE (lv_sub hl [0, 1, 2, 3, 4] rfl) hR hS (by omega) (by omega)

set_option maxHeartbeats 4000000 in
set_option maxRecDepth 100000 in
theorem ok_Law_law (l : Launch) (hfl : l.flags = pinnedFlags ++ [noTraceFlag]) (D : va_G) (A : Nat → Prop) (σ L : Nat) (xs : Nat → Int32) (x0 : Nat) (h : xb_H) (bc : Nat) (bs : Nat) (Qr : Int32 → xb_H → Nat → Nat → Prop) (hw : w2_Law_law σ L xs x0 h bc bs Qr) : xb_Met l y_Law_law [.code y_Law_law b_Law_law 8 (some .boolean)] (xb_rm 15 bc bs) (xb_Pc2 x0 L xs D A σ h [.ref x0]) (xb_Qc D A h bc bs (fun v h bc bs => ∃ r, v = some (.int r) ∧ Qr r h bc bs) (fun _ _ _ _ => False)) A := by
  refine xb_ofAm2 (cc := b_Law_law) (by decide) (Nat.le_of_ble_eq_true rfl) ?_
  unfold w2_Law_law at hw
  show xb_am2 x0 L xs l D A σ 15 bc bs h (fun v h bc bs => ∃ r, v = some (.int r) ∧ Qr r h bc bs) (fun _ _ _ _ => False) y_Law_law.cls y_Law_law.name b_Law_law 8 ([] : List ExceptionTableEntry) (some .boolean) 0 [(0, .ref x0)] [] h bc bs
  obtain ⟨MC, hMC⟩ : ∃ x, x = bc := ⟨_, rfl⟩
  obtain ⟨MS, hMS⟩ : ∃ x, x = bs := ⟨_, rfl⟩
  rw [show xb_am2 x0 L xs l D A σ 15 bc bs = xb_am2 x0 L xs l D A σ 15 MC MS by rw [hMC, hMS]]
  obtain ⟨h0, hh0⟩ : ∃ x, x = h := ⟨_, rfl⟩
  rw [show xb_am2 x0 L xs l D A σ 15 MC MS h = xb_am2 x0 L xs l D A σ 15 MC MS h0 by rw [hh0]]
  intro p e s m args below meth c hC hX9 H locs ls k n hE hl hR hS hk hn
  obtain ⟨hX, hbl, hbA⟩ := id hX9
  obtain ⟨hx, hb, hown, hlocks, htab, hml, hr, hB, hA, hnm⟩ := id hC
  have hts := hB.1.1.at args
  obtain ⟨hcq1, hsq1, hw⟩ := hw
  refine xb_newo (C := R_H) (T := F_H) (N := 11) hx hb 0 hts fin_H t_H t_H_ok hown (hts _ m_5b8a9786) (hts _ m_8b0e565f) (hts _ m_ba0734f5) hR hS hA (by decide) rfl dg_H (show k + 1 ≤ MC by omega) (show n + 11 ≤ MS by omega) (xb_d D_Law_law 0 rfl) (fun q1 H hqq1 hR hS => ?_)
  have hw := hw q1 hqq1
  obtain ⟨h2, eh2⟩ : ∃ x : xb_H, x = xb_new h q1 1 0 := ⟨_, rfl⟩
  rw [← eh2] at hR
  have hw := hw h2 eh2
  have hE : xb_ext h0 h2 := by rw [eh2]; exact hE.new _ _ hqq1
  have hk3 : xb_k h2 q1 = 1 := by rw [eh2]; exact xb_new_k _ _ _ _
  refine lv_dup hx hb (xb_d D_Law_law 1 rfl) rfl ?_
  refine xb_call (D := D) (A := A) (σ := σ) (h := h2) (d := 4) (mc := (bc - 1)) (ms := (bs - 11)) (maxL := 1) (rest := [.ref q1]) (av := [.ref q1]) (fun T hT X => xt_invI X hx hown rfl (hts _ m_d981becc) (hts _ m_8ce46be2) (hts _ m_1a0c6c5e) nm_H_init (g := F0 m 4 ls [.ref q1, .ref q1]) rfl (b := q1) (argsL := []) (rest := [.ref q1]) rfl rfl (by rw [hb]; exact (xb_d D_Law_law 2 rfl))) (ok_H_init l hfl D A σ q1 h2 (bc - 1) (bs - 11) _ hw) (hml.trans hl.1.symm) (by rw [hb]; exact (xb_d D_Law_law 2 rfl)) (Nat.le_of_ble_eq_true rfl) (Nat.le_of_ble_eq_true rfl) (Nat.le_of_ble_eq_true rfl) (show (k + 1) + (bc - 1) ≤ MC by omega) (show (n + 11) + (bs - 11) ≤ MS by omega) (xt_w1 hB.1 m_1a0c6c5e) (xt_cdOf hB.1 m_1a0c6c5e) (hts _ m_ba0734f5) hB hR hS hA (fun vv h4 bc5 bs5 kk5 nn5 H locs hk5 hn5 hq hEh4 hR hS => ?_) (fun XX ax h4 bc5 bs5 kk5 nn5 H locs hk5 hn5 hq hEh4 hex hR hS => ?_)
  · obtain ⟨rfl, hw⟩ := hq
    have hw := hw hEh4
    have hE := hE.tr hEh4
    refine W.eq (g2 := F0 m 7 ls [.ref q1]) rfl ?_
    refine lv_astore_n hx hb (xb_d D_Law_law 3 rfl) rfl hl (by decide) rfl (fun ls hl => ?_)
    have hl : lv_has ls 8 [(1, .ref q1), (0, .ref x0)] := hl
    obtain ⟨hcq6, hsq6, hw⟩ := hw
    refine xb_newo (C := R_M) (T := F_M) (N := 97) hx hb 8 hts fin_M t_M t_M_ok hown (hts _ m_1fd49ce1) (hts _ m_45254c46) (hts _ m_d5ed7bed) hR hS hA (by decide) rfl dg_M (show ((k + 1) + kk5) + 1 ≤ MC by omega) (show ((n + 11) + nn5) + 97 ≤ MS by omega) (xb_d D_Law_law 4 rfl) (fun q6 H hqq6 hR hS => ?_)
    have hw := hw q6 hqq6
    obtain ⟨h7, eh7⟩ : ∃ x : xb_H, x = xb_new h4 q6 9 0 := ⟨_, rfl⟩
    rw [← eh7] at hR
    have hw := hw h7 eh7
    have hE : xb_ext h0 h7 := by rw [eh7]; exact hE.new _ _ hqq6
    have hk8 : xb_k h7 q6 = 9 := by rw [eh7]; exact xb_new_k _ _ _ _
    refine lv_dup hx hb (xb_d D_Law_law 5 rfl) rfl ?_
    refine xb_call (D := D) (A := A) (σ := σ) (h := h7) (d := 3) (mc := (bc5 - 1)) (ms := (bs5 - 97)) (maxL := 1) (rest := [.ref q6]) (av := [.ref q6]) (fun T hT X => xt_invI X hx hown rfl (hts _ m_54872f0c) (hts _ m_7bddef4d) (hts _ m_bbaef9d1) nm_M_init (g := F0 m 12 ls [.ref q6, .ref q6]) rfl (b := q6) (argsL := []) (rest := [.ref q6]) rfl rfl (by rw [hb]; exact (xb_d D_Law_law 6 rfl))) (ok_M_init l hfl D A σ q6 h7 (bc5 - 1) (bs5 - 97) _ hw) (hml.trans hl.1.symm) (by rw [hb]; exact (xb_d D_Law_law 6 rfl)) (Nat.le_of_ble_eq_true rfl) (Nat.le_of_ble_eq_true rfl) (Nat.le_of_ble_eq_true rfl) (show (((k + 1) + kk5) + 1) + (bc5 - 1) ≤ MC by omega) (show (((n + 11) + nn5) + 97) + (bs5 - 97) ≤ MS by omega) (xt_w1 hB.1 m_bbaef9d1) (xt_cdOf hB.1 m_bbaef9d1) (hts _ m_d5ed7bed) hB hR hS hA (fun vv h9 bc10 bs10 kk10 nn10 H locs hk10 hn10 hq hEh9 hR hS => ?_) (fun XX ax h9 bc10 bs10 kk10 nn10 H locs hk10 hn10 hq hEh9 hex hR hS => ?_)
    · obtain ⟨rfl, hw⟩ := hq
      have hw := hw hEh9
      have hE := hE.tr hEh9
      refine W.eq (g2 := F0 m 15 ls [.ref q6]) rfl ?_
      refine lv_astore_n hx hb (xb_d D_Law_law 7 rfl) rfl hl (by decide) rfl (fun ls hl => ?_)
      have hl : lv_has ls 8 [(2, .ref q6), (1, .ref q1), (0, .ref x0)] := hl
      refine lv_iconst (v := 1) hx hb (xb_d D_Law_law 8 rfl) (by decide) ?_
      obtain ⟨hcq11, hsq11, hw⟩ := hw
      have enq11 : (1 : Int32).toNatClampNeg = 1 := by decide
      refine xb_newa_l hx hb (hts _ m_f2af499d) hR hS hA (by decide) (by decide +kernel) (show ((((k + 1) + kk5) + 1) + kk10) + 1 ≤ MC by omega) (show ((((n + 11) + nn5) + 97) + nn10) + _ ≤ MS by rw [enq11]; omega) (xb_d D_Law_law 9 rfl) (fun q11 H hqq11 hR hS => ?_)
      rw [enq11] at hR ⊢
      have hw := hw q11 hqq11
      obtain ⟨h12, eh12⟩ : ∃ x : xb_H, x = xb_new h9 q11 103 1 := ⟨_, rfl⟩
      rw [← eh12] at hR
      have hw := hw h12 eh12
      have hE : xb_ext h0 h12 := by rw [eh12]; exact hE.new _ _ hqq11
      have hk13 : xb_k h12 q11 = 103 := by rw [eh12]; exact xb_new_k _ _ _ _
      refine lv_astore_n hx hb (xb_d D_Law_law 10 rfl) rfl hl (by decide) rfl (fun ls hl => ?_)
      have hl : lv_has ls 8 [(3, .ref q11), (2, .ref q6), (1, .ref q1), (0, .ref x0)] := hl
      refine lv_iconst (v := 0) hx hb (xb_d D_Law_law 11 rfl) (by decide) ?_
      refine lv_istore hx hb (xb_d D_Law_law 12 rfl) hl (by decide) rfl (fun ls hl => ?_)
      have hl : lv_has ls 8 [(4, .int 0), (3, .ref q11), (2, .ref q6), (1, .ref q1), (0, .ref x0)] := hl
      obtain ⟨n8, hw⟩ := hw
      exact am_Law_law_L23 l hfl D A σ L xs MC MS h0 Qr n8 x0 q1 q6 q11 0 h12 (bc10 - 1) (bs10 - 1) hw p e s m args below meth c hC hX9 H locs ls (((((k + 1) + kk5) + 1) + kk10) + 1) (((((n + 11) + nn5) + 97) + nn10) + 1) hE (lv_sub hl [4, 3, 2, 1, 0] rfl) hR hS (by omega) (by omega)
    · exact False.elim hq
  · exact False.elim hq

