theorem m_a77a0f23 : (.methodLink "StackHostLaw" 90 y_Law_feed : Cond) ∈ xt_tbl := xt_in (xt_t2 (List.mem_of_getElem? (i := 144) (by decide +kernel))) (by decide +kernel)
theorem m_4dc3b71a : (.static y_Law_feed : Cond) ∈ xt_tbl := xt_in (xt_t2 (List.mem_of_getElem? (i := 145) (by decide +kernel))) (by decide +kernel)
theorem m_6445b362 : (.initialized "StackHostLaw" : Cond) ∈ xt_tbl := xt_in (xt_t1 (List.mem_of_getElem? (i := 0) (by decide +kernel))) (by decide +kernel)
theorem m_c82c7dba : (.codeWith y_Law_feed b_Law_feed 8 (some .int) [(0, 16, 19, 13)] : Cond) ∈ xt_tbl := xt_in (xt_t2 (List.mem_of_getElem? (i := 146) (by decide +kernel))) (by decide +kernel)
theorem m_bafdb021 : (.methodLink "StackHostLaw" 95 y_M_feed : Cond) ∈ xt_tbl := xt_in (xt_t12 (List.mem_of_getElem? (i := 13) (by decide +kernel))) (by decide +kernel)
theorem m_8d07489a : (.instanceMethod y_M_feed : Cond) ∈ xt_tbl := xt_in (xt_t12 (List.mem_of_getElem? (i := 14) (by decide +kernel))) (by decide +kernel)
theorem m_3960b39a : (.selects "StackHostModel" y_M_feed y_M_feed : Cond) ∈ xt_tbl := xt_in (xt_t12 (List.mem_of_getElem? (i := 15) (by decide +kernel))) (by decide +kernel)
theorem m_cf44efd5 : (.code y_M_feed b_M_feed 8 (some .int) : Cond) ∈ xt_tbl := xt_in (xt_t12 (List.mem_of_getElem? (i := 16) (by decide +kernel))) (by decide +kernel)
theorem m_4e0e8e72 : (.methodLink "StackHostLaw" 96 y_M_thrown : Cond) ∈ xt_tbl := xt_in (xt_t10 (List.mem_of_getElem? (i := 190) (by decide +kernel))) (by decide +kernel)
theorem m_e6bd7a2e : (.instanceMethod y_M_thrown : Cond) ∈ xt_tbl := xt_in (xt_t10 (List.mem_of_getElem? (i := 191) (by decide +kernel))) (by decide +kernel)
theorem m_a9e3d950 : (.selects "StackHostModel" y_M_thrown y_M_thrown : Cond) ∈ xt_tbl := xt_in (xt_t10 (List.mem_of_getElem? (i := 192) (by decide +kernel))) (by decide +kernel)
theorem m_6c6d2858 : (.code y_M_thrown b_M_thrown 1 (some .int) : Cond) ∈ xt_tbl := xt_in (xt_t10 (List.mem_of_getElem? (i := 193) (by decide +kernel))) (by decide +kernel)
theorem m_4150472c : (.methodLink "StackHostLaw" 99 y_Law_end : Cond) ∈ xt_tbl := xt_in (xt_t3 (List.mem_of_getElem? (i := 3) (by decide +kernel))) (by decide +kernel)
theorem m_7b391b8e : (.static y_Law_end : Cond) ∈ xt_tbl := xt_in (xt_t3 (List.mem_of_getElem? (i := 4) (by decide +kernel))) (by decide +kernel)
theorem m_af196c6f : (.codeWith y_Law_end b_Law_end 3 (some .int) [(0, 5, 8, 19)] : Cond) ∈ xt_tbl := xt_in (xt_t3 (List.mem_of_getElem? (i := 5) (by decide +kernel))) (by decide +kernel)
theorem m_bdac9582 : (.methodLink "StackHostLaw" 102 y_M_end : Cond) ∈ xt_tbl := xt_in (xt_t12 (List.mem_of_getElem? (i := 17) (by decide +kernel))) (by decide +kernel)
theorem m_bbe3ba13 : (.instanceMethod y_M_end : Cond) ∈ xt_tbl := xt_in (xt_t12 (List.mem_of_getElem? (i := 18) (by decide +kernel))) (by decide +kernel)
theorem m_54523609 : (.selects "StackHostModel" y_M_end y_M_end : Cond) ∈ xt_tbl := xt_in (xt_t12 (List.mem_of_getElem? (i := 19) (by decide +kernel))) (by decide +kernel)
theorem m_81e9ec36 : (.code y_M_end b_M_end 2 none : Cond) ∈ xt_tbl := xt_in (xt_t12 (List.mem_of_getElem? (i := 20) (by decide +kernel))) (by decide +kernel)
theorem m_87ae3aec : (.methodLink "StackHostLaw" 103 y_Law_load : Cond) ∈ xt_tbl := xt_in (xt_t3 (List.mem_of_getElem? (i := 27) (by decide +kernel))) (by decide +kernel)
theorem m_4dbb5827 : (.static y_Law_load : Cond) ∈ xt_tbl := xt_in (xt_t3 (List.mem_of_getElem? (i := 28) (by decide +kernel))) (by decide +kernel)
theorem m_681560db : (.codeWith y_Law_load b_Law_load 3 (some .int) [(0, 8, 11, 13)] : Cond) ∈ xt_tbl := xt_in (xt_t3 (List.mem_of_getElem? (i := 29) (by decide +kernel))) (by decide +kernel)
theorem m_6bd0efed : (.methodLink "StackHostLaw" 106 y_M_load : Cond) ∈ xt_tbl := xt_in (xt_t10 (List.mem_of_getElem? (i := 194) (by decide +kernel))) (by decide +kernel)
theorem m_4a74d1ef : (.instanceMethod y_M_load : Cond) ∈ xt_tbl := xt_in (xt_t10 (List.mem_of_getElem? (i := 195) (by decide +kernel))) (by decide +kernel)
theorem m_3ee01492 : (.selects "StackHostModel" y_M_load y_M_load : Cond) ∈ xt_tbl := xt_in (xt_t10 (List.mem_of_getElem? (i := 196) (by decide +kernel))) (by decide +kernel)
theorem m_ac53e310 : (.code y_M_load b_M_load 5 (some .int) : Cond) ∈ xt_tbl := xt_in (xt_t10 (List.mem_of_getElem? (i := 197) (by decide +kernel))) (by decide +kernel)
theorem m_667c8236 : (.methodLink "StackHostLaw" 107 y_Law_fault : Cond) ∈ xt_tbl := xt_in (xt_t6 (List.mem_of_getElem? (i := 56) (by decide +kernel))) (by decide +kernel)
theorem m_2a1b593e : (.static y_Law_fault : Cond) ∈ xt_tbl := xt_in (xt_t6 (List.mem_of_getElem? (i := 57) (by decide +kernel))) (by decide +kernel)
theorem m_b9ddf195 : (.codeWith y_Law_fault b_Law_fault 4 (some .int) [(0, 9, 12, 29)] : Cond) ∈ xt_tbl := xt_in (xt_t6 (List.mem_of_getElem? (i := 58) (by decide +kernel))) (by decide +kernel)
theorem m_61d133ec : (.methodLink "StackHostLaw" 110 y_M_fault : Cond) ∈ xt_tbl := xt_in (xt_t12 (List.mem_of_getElem? (i := 9) (by decide +kernel))) (by decide +kernel)
theorem m_5ef48346 : (.instanceMethod y_M_fault : Cond) ∈ xt_tbl := xt_in (xt_t12 (List.mem_of_getElem? (i := 10) (by decide +kernel))) (by decide +kernel)
theorem m_0f8af277 : (.selects "StackHostModel" y_M_fault y_M_fault : Cond) ∈ xt_tbl := xt_in (xt_t12 (List.mem_of_getElem? (i := 11) (by decide +kernel))) (by decide +kernel)
theorem m_3417788a : (.code y_M_fault b_M_fault 2 (some .int) : Cond) ∈ xt_tbl := xt_in (xt_t12 (List.mem_of_getElem? (i := 12) (by decide +kernel))) (by decide +kernel)
theorem m_9d546c32 : (.methodLink "StackHostLaw" 111 y_Law_module : Cond) ∈ xt_tbl := xt_in (xt_t6 (List.mem_of_getElem? (i := 77) (by decide +kernel))) (by decide +kernel)
theorem m_ed220d35 : (.static y_Law_module : Cond) ∈ xt_tbl := xt_in (xt_t6 (List.mem_of_getElem? (i := 78) (by decide +kernel))) (by decide +kernel)
theorem m_8b6a1906 : (.codeWith y_Law_module b_Law_module 5 (some .int) [(0, 10, 13, 29)] : Cond) ∈ xt_tbl := xt_in (xt_t6 (List.mem_of_getElem? (i := 79) (by decide +kernel))) (by decide +kernel)
theorem m_7a75299b : (.methodLink "StackHostLaw" 114 y_M_module : Cond) ∈ xt_tbl := xt_in (xt_t11 (List.mem_of_getElem? (i := 237) (by decide +kernel))) (by decide +kernel)
theorem m_9b45ccfe : (.instanceMethod y_M_module : Cond) ∈ xt_tbl := xt_in (xt_t11 (List.mem_of_getElem? (i := 238) (by decide +kernel))) (by decide +kernel)
theorem m_28cdfd27 : (.selects "StackHostModel" y_M_module y_M_module : Cond) ∈ xt_tbl := xt_in (xt_t11 (List.mem_of_getElem? (i := 239) (by decide +kernel))) (by decide +kernel)
theorem m_4727a86b : (.code y_M_module b_M_module 3 (some .int) : Cond) ∈ xt_tbl := xt_in (xt_t12 (List.mem_of_getElem? (i := 0) (by decide +kernel))) (by decide +kernel)
theorem m_868e8495 : (.methodLink "StackHostLaw" 115 y_Law_room : Cond) ∈ xt_tbl := xt_in (xt_t6 (List.mem_of_getElem? (i := 91) (by decide +kernel))) (by decide +kernel)
theorem m_4fdd4d2e : (.static y_Law_room : Cond) ∈ xt_tbl := xt_in (xt_t6 (List.mem_of_getElem? (i := 92) (by decide +kernel))) (by decide +kernel)
theorem m_21e6add5 : (.codeWith y_Law_room b_Law_room 5 (some .int) [(0, 10, 13, 29)] : Cond) ∈ xt_tbl := xt_in (xt_t6 (List.mem_of_getElem? (i := 93) (by decide +kernel))) (by decide +kernel)
theorem m_7fbeed31 : (.methodLink "StackHostLaw" 117 y_M_room : Cond) ∈ xt_tbl := xt_in (xt_t12 (List.mem_of_getElem? (i := 5) (by decide +kernel))) (by decide +kernel)
theorem m_de1fd268 : (.instanceMethod y_M_room : Cond) ∈ xt_tbl := xt_in (xt_t12 (List.mem_of_getElem? (i := 6) (by decide +kernel))) (by decide +kernel)
theorem m_6999cd16 : (.selects "StackHostModel" y_M_room y_M_room : Cond) ∈ xt_tbl := xt_in (xt_t12 (List.mem_of_getElem? (i := 7) (by decide +kernel))) (by decide +kernel)
theorem m_5826b26c : (.code y_M_room b_M_room 3 (some .int) : Cond) ∈ xt_tbl := xt_in (xt_t12 (List.mem_of_getElem? (i := 8) (by decide +kernel))) (by decide +kernel)
theorem m_055ef8d6 : (.methodLink "StackHostLaw" 118 y_Law_instantiate : Cond) ∈ xt_tbl := xt_in (xt_t6 (List.mem_of_getElem? (i := 100) (by decide +kernel))) (by decide +kernel)
theorem m_ca4e0918 : (.static y_Law_instantiate : Cond) ∈ xt_tbl := xt_in (xt_t6 (List.mem_of_getElem? (i := 101) (by decide +kernel))) (by decide +kernel)
theorem m_2e473db3 : (.codeWith y_Law_instantiate b_Law_instantiate 4 (some .int) [(0, 9, 12, 29), (0, 9, 15, 13)] : Cond) ∈ xt_tbl := xt_in (xt_t6 (List.mem_of_getElem? (i := 102) (by decide +kernel))) (by decide +kernel)
theorem m_c1618c1c : (.methodLink "StackHostLaw" 120 y_M_instantiate : Cond) ∈ xt_tbl := xt_in (xt_t12 (List.mem_of_getElem? (i := 21) (by decide +kernel))) (by decide +kernel)
theorem m_9c192fc6 : (.instanceMethod y_M_instantiate : Cond) ∈ xt_tbl := xt_in (xt_t12 (List.mem_of_getElem? (i := 22) (by decide +kernel))) (by decide +kernel)
theorem m_4464a7c4 : (.selects "StackHostModel" y_M_instantiate y_M_instantiate : Cond) ∈ xt_tbl := xt_in (xt_t12 (List.mem_of_getElem? (i := 23) (by decide +kernel))) (by decide +kernel)
theorem m_7f8a5ab1 : (.code y_M_instantiate b_M_instantiate 14 (some .int) : Cond) ∈ xt_tbl := xt_in (xt_t12 (List.mem_of_getElem? (i := 24) (by decide +kernel))) (by decide +kernel)
theorem m_dffd3298 : (.methodLink "StackHostLaw" 121 y_Law_name : Cond) ∈ xt_tbl := xt_in (xt_t7 (List.mem_of_getElem? (i := 120) (by decide +kernel))) (by decide +kernel)
theorem m_95e9795d : (.static y_Law_name : Cond) ∈ xt_tbl := xt_in (xt_t7 (List.mem_of_getElem? (i := 121) (by decide +kernel))) (by decide +kernel)
theorem m_25ac2c1f : (.codeWith y_Law_name b_Law_name 3 (some .int) [(0, 5, 8, 29)] : Cond) ∈ xt_tbl := xt_in (xt_t7 (List.mem_of_getElem? (i := 122) (by decide +kernel))) (by decide +kernel)
theorem m_690c341d : (.methodLink "StackHostLaw" 123 y_M_name1 : Cond) ∈ xt_tbl := xt_in (xt_t12 (List.mem_of_getElem? (i := 117) (by decide +kernel))) (by decide +kernel)
theorem m_ceb59520 : (.instanceMethod y_M_name1 : Cond) ∈ xt_tbl := xt_in (xt_t12 (List.mem_of_getElem? (i := 118) (by decide +kernel))) (by decide +kernel)
theorem m_66c1bb6d : (.selects "StackHostModel" y_M_name1 y_M_name1 : Cond) ∈ xt_tbl := xt_in (xt_t12 (List.mem_of_getElem? (i := 119) (by decide +kernel))) (by decide +kernel)
theorem m_b957af9e : (.code y_M_name1 b_M_name1 2 none : Cond) ∈ xt_tbl := xt_in (xt_t12 (List.mem_of_getElem? (i := 120) (by decide +kernel))) (by decide +kernel)
theorem m_452acb62 : (.methodLink "StackHostLaw" 124 y_Law_find : Cond) ∈ xt_tbl := xt_in (xt_t7 (List.mem_of_getElem? (i := 138) (by decide +kernel))) (by decide +kernel)
theorem m_8fcc0bf2 : (.static y_Law_find : Cond) ∈ xt_tbl := xt_in (xt_t7 (List.mem_of_getElem? (i := 139) (by decide +kernel))) (by decide +kernel)
theorem m_e6af087c : (.codeWith y_Law_find b_Law_find 4 (some .int) [(0, 9, 12, 29)] : Cond) ∈ xt_tbl := xt_in (xt_t7 (List.mem_of_getElem? (i := 140) (by decide +kernel))) (by decide +kernel)
theorem m_158900db : (.methodLink "StackHostLaw" 126 y_M_find : Cond) ∈ xt_tbl := xt_in (xt_t12 (List.mem_of_getElem? (i := 125) (by decide +kernel))) (by decide +kernel)
theorem m_033ea03f : (.instanceMethod y_M_find : Cond) ∈ xt_tbl := xt_in (xt_t12 (List.mem_of_getElem? (i := 126) (by decide +kernel))) (by decide +kernel)
theorem m_204d37c5 : (.selects "StackHostModel" y_M_find y_M_find : Cond) ∈ xt_tbl := xt_in (xt_t12 (List.mem_of_getElem? (i := 127) (by decide +kernel))) (by decide +kernel)
theorem m_36d1dd5e : (.code y_M_find b_M_find 4 (some .int) : Cond) ∈ xt_tbl := xt_in (xt_t12 (List.mem_of_getElem? (i := 128) (by decide +kernel))) (by decide +kernel)
theorem m_f499567a : (.methodLink "StackHostLaw" 127 y_Law_exported : Cond) ∈ xt_tbl := xt_in (xt_t7 (List.mem_of_getElem? (i := 146) (by decide +kernel))) (by decide +kernel)
theorem m_a4d922a3 : (.static y_Law_exported : Cond) ∈ xt_tbl := xt_in (xt_t7 (List.mem_of_getElem? (i := 147) (by decide +kernel))) (by decide +kernel)
theorem m_29cb7ca8 : (.codeWith y_Law_exported b_Law_exported 6 (some .int) [(0, 12, 15, 29)] : Cond) ∈ xt_tbl := xt_in (xt_t7 (List.mem_of_getElem? (i := 148) (by decide +kernel))) (by decide +kernel)
theorem m_12df9324 : (.methodLink "StackHostLaw" 130 y_M_exported : Cond) ∈ xt_tbl := xt_in (xt_t12 (List.mem_of_getElem? (i := 129) (by decide +kernel))) (by decide +kernel)
theorem m_d9b6b786 : (.instanceMethod y_M_exported : Cond) ∈ xt_tbl := xt_in (xt_t12 (List.mem_of_getElem? (i := 130) (by decide +kernel))) (by decide +kernel)
theorem m_68b1a8cd : (.selects "StackHostModel" y_M_exported y_M_exported : Cond) ∈ xt_tbl := xt_in (xt_t12 (List.mem_of_getElem? (i := 131) (by decide +kernel))) (by decide +kernel)
theorem m_e845ad78 : (.code y_M_exported b_M_exported 8 (some .int) : Cond) ∈ xt_tbl := xt_in (xt_t12 (List.mem_of_getElem? (i := 132) (by decide +kernel))) (by decide +kernel)
theorem m_1afdcc86 : (.constantLong "StackHostLaw" 131 4294967295 : Cond) ∈ xt_tbl := xt_in (xt_t13 (List.mem_of_getElem? (i := 219) (by decide +kernel))) (by decide +kernel)
theorem m_9b7c456e : (.methodLink "StackHostLaw" 133 y_Law_push : Cond) ∈ xt_tbl := xt_in (xt_t7 (List.mem_of_getElem? (i := 162) (by decide +kernel))) (by decide +kernel)
theorem m_405e2d6b : (.static y_Law_push : Cond) ∈ xt_tbl := xt_in (xt_t7 (List.mem_of_getElem? (i := 163) (by decide +kernel))) (by decide +kernel)
theorem m_80f64de9 : (.codeWith y_Law_push b_Law_push 5 (some .int) [(0, 9, 12, 13)] : Cond) ∈ xt_tbl := xt_in (xt_t7 (List.mem_of_getElem? (i := 164) (by decide +kernel))) (by decide +kernel)
theorem m_97cf9271 : (.methodLink "StackHostLaw" 136 y_M_push : Cond) ∈ xt_tbl := xt_in (xt_t12 (List.mem_of_getElem? (i := 145) (by decide +kernel))) (by decide +kernel)
theorem m_e2ffa201 : (.instanceMethod y_M_push : Cond) ∈ xt_tbl := xt_in (xt_t12 (List.mem_of_getElem? (i := 146) (by decide +kernel))) (by decide +kernel)
theorem m_41a99f61 : (.selects "StackHostModel" y_M_push y_M_push : Cond) ∈ xt_tbl := xt_in (xt_t12 (List.mem_of_getElem? (i := 147) (by decide +kernel))) (by decide +kernel)
theorem m_ebcc62d2 : (.code y_M_push b_M_push 3 (some .int) : Cond) ∈ xt_tbl := xt_in (xt_t12 (List.mem_of_getElem? (i := 148) (by decide +kernel))) (by decide +kernel)
theorem m_139ca76e : (.methodLink "StackHostLaw" 137 y_Law_invoke : Cond) ∈ xt_tbl := xt_in (xt_t7 (List.mem_of_getElem? (i := 171) (by decide +kernel))) (by decide +kernel)
theorem m_e3f01959 : (.static y_Law_invoke : Cond) ∈ xt_tbl := xt_in (xt_t7 (List.mem_of_getElem? (i := 172) (by decide +kernel))) (by decide +kernel)
theorem m_a5134c6d : (.codeWith y_Law_invoke b_Law_invoke 4 (some .int) [(0, 6, 9, 29), (0, 6, 12, 19), (0, 6, 15, 13)] : Cond) ∈ xt_tbl := xt_in (xt_t7 (List.mem_of_getElem? (i := 173) (by decide +kernel))) (by decide +kernel)
theorem m_097516a2 : (.methodLink "StackHostLaw" 140 y_M_invoke : Cond) ∈ xt_tbl := xt_in (xt_t12 (List.mem_of_getElem? (i := 149) (by decide +kernel))) (by decide +kernel)
theorem m_acb842fe : (.instanceMethod y_M_invoke : Cond) ∈ xt_tbl := xt_in (xt_t12 (List.mem_of_getElem? (i := 150) (by decide +kernel))) (by decide +kernel)
theorem m_8f9d9e95 : (.selects "StackHostModel" y_M_invoke y_M_invoke : Cond) ∈ xt_tbl := xt_in (xt_t12 (List.mem_of_getElem? (i := 151) (by decide +kernel))) (by decide +kernel)
theorem m_da9af6b0 : (.code y_M_invoke b_M_invoke 7 none : Cond) ∈ xt_tbl := xt_in (xt_t12 (List.mem_of_getElem? (i := 152) (by decide +kernel))) (by decide +kernel)
theorem m_00163634 : (.methodLink "StackHostLaw" 141 y_Law_run : Cond) ∈ xt_tbl := xt_in (xt_t7 (List.mem_of_getElem? (i := 193) (by decide +kernel))) (by decide +kernel)
theorem m_5d8bd3a7 : (.static y_Law_run : Cond) ∈ xt_tbl := xt_in (xt_t7 (List.mem_of_getElem? (i := 194) (by decide +kernel))) (by decide +kernel)
theorem m_3ea92327 : (.codeWith y_Law_run b_Law_run 4 (some .int) [(0, 9, 12, 19), (0, 9, 15, 13)] : Cond) ∈ xt_tbl := xt_in (xt_t7 (List.mem_of_getElem? (i := 195) (by decide +kernel))) (by decide +kernel)
theorem m_362e6f00 : (.methodLink "StackHostLaw" 143 y_M_run : Cond) ∈ xt_tbl := xt_in (xt_t12 (List.mem_of_getElem? (i := 153) (by decide +kernel))) (by decide +kernel)
theorem m_7da41847 : (.instanceMethod y_M_run : Cond) ∈ xt_tbl := xt_in (xt_t12 (List.mem_of_getElem? (i := 154) (by decide +kernel))) (by decide +kernel)
theorem m_15a64045 : (.selects "StackHostModel" y_M_run y_M_run : Cond) ∈ xt_tbl := xt_in (xt_t12 (List.mem_of_getElem? (i := 155) (by decide +kernel))) (by decide +kernel)
theorem m_5741cf7c : (.code y_M_run b_M_run 6 (some .int) : Cond) ∈ xt_tbl := xt_in (xt_t12 (List.mem_of_getElem? (i := 156) (by decide +kernel))) (by decide +kernel)
theorem m_513d58ac : (.methodLink "StackHostLaw" 144 y_H_stop : Cond) ∈ xt_tbl := xt_in (xt_t2 (List.mem_of_getElem? (i := 116) (by decide +kernel))) (by decide +kernel)
theorem m_b95c9c7f : (.instanceMethod y_H_stop : Cond) ∈ xt_tbl := xt_in (xt_t2 (List.mem_of_getElem? (i := 117) (by decide +kernel))) (by decide +kernel)
theorem m_fbc9d42c : (.selects "StackHost" y_H_stop y_H_stop : Cond) ∈ xt_tbl := xt_in (xt_t2 (List.mem_of_getElem? (i := 118) (by decide +kernel))) (by decide +kernel)
theorem m_d6deab78 : (.code y_H_stop b_H_stop 1 (some .int) : Cond) ∈ xt_tbl := xt_in (xt_t2 (List.mem_of_getElem? (i := 119) (by decide +kernel))) (by decide +kernel)
theorem m_4c572d62 : (.methodLink "StackHostLaw" 147 y_M_stop : Cond) ∈ xt_tbl := xt_in (xt_t13 (List.mem_of_getElem? (i := 162) (by decide +kernel))) (by decide +kernel)
theorem m_136699e8 : (.instanceMethod y_M_stop : Cond) ∈ xt_tbl := xt_in (xt_t13 (List.mem_of_getElem? (i := 163) (by decide +kernel))) (by decide +kernel)
theorem m_733b14e3 : (.selects "StackHostModel" y_M_stop y_M_stop : Cond) ∈ xt_tbl := xt_in (xt_t13 (List.mem_of_getElem? (i := 164) (by decide +kernel))) (by decide +kernel)
theorem m_545720a2 : (.code y_M_stop b_M_stop 2 (some .int) : Cond) ∈ xt_tbl := xt_in (xt_t13 (List.mem_of_getElem? (i := 165) (by decide +kernel))) (by decide +kernel)
theorem m_d653f6eb : (.methodLink "StackHostLaw" 148 y_H_calls : Cond) ∈ xt_tbl := xt_in (xt_t2 (List.mem_of_getElem? (i := 124) (by decide +kernel))) (by decide +kernel)
theorem m_284c1805 : (.instanceMethod y_H_calls : Cond) ∈ xt_tbl := xt_in (xt_t2 (List.mem_of_getElem? (i := 125) (by decide +kernel))) (by decide +kernel)
theorem m_a8d3f30a : (.selects "StackHost" y_H_calls y_H_calls : Cond) ∈ xt_tbl := xt_in (xt_t2 (List.mem_of_getElem? (i := 126) (by decide +kernel))) (by decide +kernel)
theorem m_46c065db : (.code y_H_calls b_H_calls 1 (some .int) : Cond) ∈ xt_tbl := xt_in (xt_t2 (List.mem_of_getElem? (i := 127) (by decide +kernel))) (by decide +kernel)
theorem m_0d5f3faa : (.methodLink "StackHostLaw" 151 y_M_calls : Cond) ∈ xt_tbl := xt_in (xt_t13 (List.mem_of_getElem? (i := 166) (by decide +kernel))) (by decide +kernel)
theorem m_c0729cda : (.instanceMethod y_M_calls : Cond) ∈ xt_tbl := xt_in (xt_t13 (List.mem_of_getElem? (i := 167) (by decide +kernel))) (by decide +kernel)
theorem m_3840d3a2 : (.selects "StackHostModel" y_M_calls y_M_calls : Cond) ∈ xt_tbl := xt_in (xt_t13 (List.mem_of_getElem? (i := 168) (by decide +kernel))) (by decide +kernel)
theorem m_2518159a : (.code y_M_calls b_M_calls 1 (some .int) : Cond) ∈ xt_tbl := xt_in (xt_t13 (List.mem_of_getElem? (i := 169) (by decide +kernel))) (by decide +kernel)
theorem m_3e98417a : (.methodLink "StackHostLaw" 152 y_H_result : Cond) ∈ xt_tbl := xt_in (xt_t2 (List.mem_of_getElem? (i := 128) (by decide +kernel))) (by decide +kernel)
theorem m_6f7c43e3 : (.instanceMethod y_H_result : Cond) ∈ xt_tbl := xt_in (xt_t2 (List.mem_of_getElem? (i := 129) (by decide +kernel))) (by decide +kernel)
theorem m_6a5f97b4 : (.selects "StackHost" y_H_result y_H_result : Cond) ∈ xt_tbl := xt_in (xt_t2 (List.mem_of_getElem? (i := 130) (by decide +kernel))) (by decide +kernel)
theorem m_ee8450e5 : (.code y_H_result b_H_result 1 (some .long) : Cond) ∈ xt_tbl := xt_in (xt_t2 (List.mem_of_getElem? (i := 131) (by decide +kernel))) (by decide +kernel)
theorem m_69765c63 : (.methodLink "StackHostLaw" 156 y_M_result : Cond) ∈ xt_tbl := xt_in (xt_t13 (List.mem_of_getElem? (i := 170) (by decide +kernel))) (by decide +kernel)
theorem m_a6fe7e52 : (.instanceMethod y_M_result : Cond) ∈ xt_tbl := xt_in (xt_t13 (List.mem_of_getElem? (i := 171) (by decide +kernel))) (by decide +kernel)
theorem m_429e009f : (.selects "StackHostModel" y_M_result y_M_result : Cond) ∈ xt_tbl := xt_in (xt_t13 (List.mem_of_getElem? (i := 172) (by decide +kernel))) (by decide +kernel)
theorem m_45e6955b : (.code y_M_result b_M_result 1 (some .long) : Cond) ∈ xt_tbl := xt_in (xt_t13 (List.mem_of_getElem? (i := 173) (by decide +kernel))) (by decide +kernel)
theorem m_9fd736f5 : (.methodLink "StackHostLaw" 157 y_Law_trap : Cond) ∈ xt_tbl := xt_in (xt_t9 (List.mem_of_getElem? (i := 23) (by decide +kernel))) (by decide +kernel)
theorem m_3ae348b9 : (.static y_Law_trap : Cond) ∈ xt_tbl := xt_in (xt_t9 (List.mem_of_getElem? (i := 24) (by decide +kernel))) (by decide +kernel)
theorem m_c46c6eff : (.codeWith y_Law_trap b_Law_trap 4 (some .int) [(0, 9, 12, 29)] : Cond) ∈ xt_tbl := xt_in (xt_t9 (List.mem_of_getElem? (i := 25) (by decide +kernel))) (by decide +kernel)
theorem m_d110bb05 : (.methodLink "StackHostLaw" 159 y_M_trap : Cond) ∈ xt_tbl := xt_in (xt_t13 (List.mem_of_getElem? (i := 174) (by decide +kernel))) (by decide +kernel)
theorem m_f4d30eb7 : (.instanceMethod y_M_trap : Cond) ∈ xt_tbl := xt_in (xt_t13 (List.mem_of_getElem? (i := 175) (by decide +kernel))) (by decide +kernel)
theorem m_684d6285 : (.selects "StackHostModel" y_M_trap y_M_trap : Cond) ∈ xt_tbl := xt_in (xt_t13 (List.mem_of_getElem? (i := 176) (by decide +kernel))) (by decide +kernel)
theorem m_4b26901a : (.code y_M_trap b_M_trap 2 (some .int) : Cond) ∈ xt_tbl := xt_in (xt_t13 (List.mem_of_getElem? (i := 177) (by decide +kernel))) (by decide +kernel)
theorem m_ea61065c : (.methodLink "StackHostLaw" 160 y_Law_pages : Cond) ∈ xt_tbl := xt_in (xt_t9 (List.mem_of_getElem? (i := 31) (by decide +kernel))) (by decide +kernel)
theorem m_036c732f : (.static y_Law_pages : Cond) ∈ xt_tbl := xt_in (xt_t9 (List.mem_of_getElem? (i := 32) (by decide +kernel))) (by decide +kernel)
theorem m_d751318f : (.codeWith y_Law_pages b_Law_pages 4 (some .int) [(0, 9, 12, 29)] : Cond) ∈ xt_tbl := xt_in (xt_t9 (List.mem_of_getElem? (i := 33) (by decide +kernel))) (by decide +kernel)
theorem m_38e60a3d : (.methodLink "StackHostLaw" 162 y_M_pages : Cond) ∈ xt_tbl := xt_in (xt_t13 (List.mem_of_getElem? (i := 182) (by decide +kernel))) (by decide +kernel)
theorem m_7ca87fc2 : (.instanceMethod y_M_pages : Cond) ∈ xt_tbl := xt_in (xt_t13 (List.mem_of_getElem? (i := 183) (by decide +kernel))) (by decide +kernel)
theorem m_91e3eddb : (.selects "StackHostModel" y_M_pages y_M_pages : Cond) ∈ xt_tbl := xt_in (xt_t13 (List.mem_of_getElem? (i := 184) (by decide +kernel))) (by decide +kernel)
theorem m_7d1491ad : (.code y_M_pages b_M_pages 3 (some .int) : Cond) ∈ xt_tbl := xt_in (xt_t13 (List.mem_of_getElem? (i := 185) (by decide +kernel))) (by decide +kernel)
theorem m_9482858c : (.methodLink "StackHostLaw" 163 y_Law_peek : Cond) ∈ xt_tbl := xt_in (xt_t9 (List.mem_of_getElem? (i := 38) (by decide +kernel))) (by decide +kernel)
theorem m_443dad31 : (.static y_Law_peek : Cond) ∈ xt_tbl := xt_in (xt_t9 (List.mem_of_getElem? (i := 39) (by decide +kernel))) (by decide +kernel)
theorem m_01ffaec7 : (.codeWith y_Law_peek b_Law_peek 5 (some .int) [(0, 10, 13, 29)] : Cond) ∈ xt_tbl := xt_in (xt_t9 (List.mem_of_getElem? (i := 40) (by decide +kernel))) (by decide +kernel)
theorem m_efbdc402 : (.methodLink "StackHostLaw" 165 y_M_peek : Cond) ∈ xt_tbl := xt_in (xt_t13 (List.mem_of_getElem? (i := 186) (by decide +kernel))) (by decide +kernel)
theorem m_7518de03 : (.instanceMethod y_M_peek : Cond) ∈ xt_tbl := xt_in (xt_t13 (List.mem_of_getElem? (i := 187) (by decide +kernel))) (by decide +kernel)
theorem m_c1a54879 : (.selects "StackHostModel" y_M_peek y_M_peek : Cond) ∈ xt_tbl := xt_in (xt_t13 (List.mem_of_getElem? (i := 188) (by decide +kernel))) (by decide +kernel)
theorem m_bbd82706 : (.code y_M_peek b_M_peek 3 (some .int) : Cond) ∈ xt_tbl := xt_in (xt_t13 (List.mem_of_getElem? (i := 189) (by decide +kernel))) (by decide +kernel)
theorem m_520ff94b : (.methodLink "StackHostLaw" 166 y_Law_poke : Cond) ∈ xt_tbl := xt_in (xt_t9 (List.mem_of_getElem? (i := 52) (by decide +kernel))) (by decide +kernel)
theorem m_d97d1e9a : (.static y_Law_poke : Cond) ∈ xt_tbl := xt_in (xt_t9 (List.mem_of_getElem? (i := 53) (by decide +kernel))) (by decide +kernel)
theorem m_89f22d82 : (.codeWith y_Law_poke b_Law_poke 5 (some .int) [(0, 7, 10, 29)] : Cond) ∈ xt_tbl := xt_in (xt_t9 (List.mem_of_getElem? (i := 54) (by decide +kernel))) (by decide +kernel)
theorem m_38a9e537 : (.methodLink "StackHostLaw" 169 y_M_poke : Cond) ∈ xt_tbl := xt_in (xt_t13 (List.mem_of_getElem? (i := 194) (by decide +kernel))) (by decide +kernel)
theorem m_e7c94f39 : (.instanceMethod y_M_poke : Cond) ∈ xt_tbl := xt_in (xt_t13 (List.mem_of_getElem? (i := 195) (by decide +kernel))) (by decide +kernel)
theorem m_b52df5e7 : (.selects "StackHostModel" y_M_poke y_M_poke : Cond) ∈ xt_tbl := xt_in (xt_t13 (List.mem_of_getElem? (i := 196) (by decide +kernel))) (by decide +kernel)
theorem m_6c937a06 : (.code y_M_poke b_M_poke 4 none : Cond) ∈ xt_tbl := xt_in (xt_t13 (List.mem_of_getElem? (i := 197) (by decide +kernel))) (by decide +kernel)
theorem m_54e8aee8 : (.methodLink "StackHostLaw" 170 y_Law_variable : Cond) ∈ xt_tbl := xt_in (xt_t9 (List.mem_of_getElem? (i := 60) (by decide +kernel))) (by decide +kernel)
theorem m_29d2e7ef : (.static y_Law_variable : Cond) ∈ xt_tbl := xt_in (xt_t9 (List.mem_of_getElem? (i := 61) (by decide +kernel))) (by decide +kernel)
theorem m_b0ca8295 : (.codeWith y_Law_variable b_Law_variable 5 (some .int) [(0, 9, 12, 29)] : Cond) ∈ xt_tbl := xt_in (xt_t9 (List.mem_of_getElem? (i := 62) (by decide +kernel))) (by decide +kernel)
theorem m_d04f613e : (.methodLink "StackHostLaw" 172 y_M_variable : Cond) ∈ xt_tbl := xt_in (xt_t13 (List.mem_of_getElem? (i := 198) (by decide +kernel))) (by decide +kernel)
theorem m_f3c40a50 : (.instanceMethod y_M_variable : Cond) ∈ xt_tbl := xt_in (xt_t13 (List.mem_of_getElem? (i := 199) (by decide +kernel))) (by decide +kernel)
theorem m_aa28356f : (.selects "StackHostModel" y_M_variable y_M_variable : Cond) ∈ xt_tbl := xt_in (xt_t13 (List.mem_of_getElem? (i := 200) (by decide +kernel))) (by decide +kernel)
theorem m_476d6619 : (.code y_M_variable b_M_variable 3 (some .long) : Cond) ∈ xt_tbl := xt_in (xt_t13 (List.mem_of_getElem? (i := 201) (by decide +kernel))) (by decide +kernel)
theorem m_39d675dc : (.methodLink "StackHostLaw" 173 y_Law_element : Cond) ∈ xt_tbl := xt_in (xt_t9 (List.mem_of_getElem? (i := 69) (by decide +kernel))) (by decide +kernel)
theorem m_b2c75aa2 : (.static y_Law_element : Cond) ∈ xt_tbl := xt_in (xt_t9 (List.mem_of_getElem? (i := 70) (by decide +kernel))) (by decide +kernel)
theorem m_28067eb6 : (.codeWith y_Law_element b_Law_element 5 (some .int) [(0, 10, 13, 29)] : Cond) ∈ xt_tbl := xt_in (xt_t9 (List.mem_of_getElem? (i := 71) (by decide +kernel))) (by decide +kernel)
theorem m_9ac91187 : (.methodLink "StackHostLaw" 175 y_M_element : Cond) ∈ xt_tbl := xt_in (xt_t13 (List.mem_of_getElem? (i := 202) (by decide +kernel))) (by decide +kernel)
theorem m_d10d7564 : (.instanceMethod y_M_element : Cond) ∈ xt_tbl := xt_in (xt_t13 (List.mem_of_getElem? (i := 203) (by decide +kernel))) (by decide +kernel)
theorem m_03e7aa3d : (.selects "StackHostModel" y_M_element y_M_element : Cond) ∈ xt_tbl := xt_in (xt_t13 (List.mem_of_getElem? (i := 204) (by decide +kernel))) (by decide +kernel)
theorem m_bf8b0a28 : (.code y_M_element b_M_element 5 (some .int) : Cond) ∈ xt_tbl := xt_in (xt_t13 (List.mem_of_getElem? (i := 205) (by decide +kernel))) (by decide +kernel)
theorem m_7cde46e9 : (.methodLink "StackHostLaw" 176 y_H_wrong : Cond) ∈ xt_tbl := xt_in (xt_t2 (List.mem_of_getElem? (i := 132) (by decide +kernel))) (by decide +kernel)
theorem m_9694c8f9 : (.instanceMethod y_H_wrong : Cond) ∈ xt_tbl := xt_in (xt_t2 (List.mem_of_getElem? (i := 133) (by decide +kernel))) (by decide +kernel)
theorem m_ad7f2fdc : (.selects "StackHost" y_H_wrong y_H_wrong : Cond) ∈ xt_tbl := xt_in (xt_t2 (List.mem_of_getElem? (i := 134) (by decide +kernel))) (by decide +kernel)
theorem m_dbbe4ed2 : (.code y_H_wrong b_H_wrong 1 (some .int) : Cond) ∈ xt_tbl := xt_in (xt_t2 (List.mem_of_getElem? (i := 135) (by decide +kernel))) (by decide +kernel)
theorem m_073fc6d8 : (.methodLink "StackHostLaw" 179 y_M_wrong : Cond) ∈ xt_tbl := xt_in (xt_t13 (List.mem_of_getElem? (i := 178) (by decide +kernel))) (by decide +kernel)
theorem m_7fd08512 : (.instanceMethod y_M_wrong : Cond) ∈ xt_tbl := xt_in (xt_t13 (List.mem_of_getElem? (i := 179) (by decide +kernel))) (by decide +kernel)
theorem m_b1a62b1d : (.selects "StackHostModel" y_M_wrong y_M_wrong : Cond) ∈ xt_tbl := xt_in (xt_t13 (List.mem_of_getElem? (i := 180) (by decide +kernel))) (by decide +kernel)
theorem m_76c8c6f8 : (.code y_M_wrong b_M_wrong 1 (some .int) : Cond) ∈ xt_tbl := xt_in (xt_t13 (List.mem_of_getElem? (i := 181) (by decide +kernel))) (by decide +kernel)
theorem m_2a774564 : (.methodLink "StackHostLaw" 180 y_H_outs : Cond) ∈ xt_tbl := xt_in (xt_t2 (List.mem_of_getElem? (i := 136) (by decide +kernel))) (by decide +kernel)
theorem m_9b2b2da6 : (.instanceMethod y_H_outs : Cond) ∈ xt_tbl := xt_in (xt_t2 (List.mem_of_getElem? (i := 137) (by decide +kernel))) (by decide +kernel)
theorem m_6177b437 : (.selects "StackHost" y_H_outs y_H_outs : Cond) ∈ xt_tbl := xt_in (xt_t2 (List.mem_of_getElem? (i := 138) (by decide +kernel))) (by decide +kernel)
theorem m_c07d7f52 : (.code y_H_outs b_H_outs 1 (some .int) : Cond) ∈ xt_tbl := xt_in (xt_t2 (List.mem_of_getElem? (i := 139) (by decide +kernel))) (by decide +kernel)
theorem m_6d1a02b8 : (.methodLink "StackHostLaw" 183 y_M_outs : Cond) ∈ xt_tbl := xt_in (xt_t13 (List.mem_of_getElem? (i := 207) (by decide +kernel))) (by decide +kernel)
theorem m_e4ab615e : (.instanceMethod y_M_outs : Cond) ∈ xt_tbl := xt_in (xt_t13 (List.mem_of_getElem? (i := 208) (by decide +kernel))) (by decide +kernel)
theorem m_ae7bd9ff : (.selects "StackHostModel" y_M_outs y_M_outs : Cond) ∈ xt_tbl := xt_in (xt_t13 (List.mem_of_getElem? (i := 209) (by decide +kernel))) (by decide +kernel)
theorem m_2e052e5c : (.code y_M_outs b_M_outs 1 (some .int) : Cond) ∈ xt_tbl := xt_in (xt_t13 (List.mem_of_getElem? (i := 210) (by decide +kernel))) (by decide +kernel)
theorem m_2544fdce : (.methodLink "StackHostLaw" 184 y_Law_out : Cond) ∈ xt_tbl := xt_in (xt_t9 (List.mem_of_getElem? (i := 80) (by decide +kernel))) (by decide +kernel)
theorem m_81c46ed3 : (.static y_Law_out : Cond) ∈ xt_tbl := xt_in (xt_t9 (List.mem_of_getElem? (i := 81) (by decide +kernel))) (by decide +kernel)
theorem m_84a3017b : (.codeWith y_Law_out b_Law_out 4 (some .int) [(0, 8, 11, 29)] : Cond) ∈ xt_tbl := xt_in (xt_t9 (List.mem_of_getElem? (i := 82) (by decide +kernel))) (by decide +kernel)
theorem m_3bdb9f30 : (.methodLink "StackHostLaw" 186 y_M_out : Cond) ∈ xt_tbl := xt_in (xt_t13 (List.mem_of_getElem? (i := 211) (by decide +kernel))) (by decide +kernel)
theorem m_52e25b4a : (.instanceMethod y_M_out : Cond) ∈ xt_tbl := xt_in (xt_t13 (List.mem_of_getElem? (i := 212) (by decide +kernel))) (by decide +kernel)
theorem m_a2135ad2 : (.selects "StackHostModel" y_M_out y_M_out : Cond) ∈ xt_tbl := xt_in (xt_t13 (List.mem_of_getElem? (i := 213) (by decide +kernel))) (by decide +kernel)
theorem m_37881f5c : (.code y_M_out b_M_out 2 (some .long) : Cond) ∈ xt_tbl := xt_in (xt_t13 (List.mem_of_getElem? (i := 214) (by decide +kernel))) (by decide +kernel)
theorem m_4f4e4284 : (.methodLink "StackHostLaw" 187 y_H_clear : Cond) ∈ xt_tbl := xt_in (xt_t2 (List.mem_of_getElem? (i := 140) (by decide +kernel))) (by decide +kernel)
theorem m_a4bf6225 : (.instanceMethod y_H_clear : Cond) ∈ xt_tbl := xt_in (xt_t2 (List.mem_of_getElem? (i := 141) (by decide +kernel))) (by decide +kernel)
theorem m_52e78cdd : (.selects "StackHost" y_H_clear y_H_clear : Cond) ∈ xt_tbl := xt_in (xt_t2 (List.mem_of_getElem? (i := 142) (by decide +kernel))) (by decide +kernel)
theorem m_85b6a32c : (.code y_H_clear b_H_clear 2 (some .int) : Cond) ∈ xt_tbl := xt_in (xt_t2 (List.mem_of_getElem? (i := 143) (by decide +kernel))) (by decide +kernel)
theorem m_78b8f485 : (.methodLink "StackHostLaw" 190 y_M_clear : Cond) ∈ xt_tbl := xt_in (xt_t13 (List.mem_of_getElem? (i := 215) (by decide +kernel))) (by decide +kernel)
theorem m_3673e0eb : (.instanceMethod y_M_clear : Cond) ∈ xt_tbl := xt_in (xt_t13 (List.mem_of_getElem? (i := 216) (by decide +kernel))) (by decide +kernel)
theorem m_d69041fc : (.selects "StackHostModel" y_M_clear y_M_clear : Cond) ∈ xt_tbl := xt_in (xt_t13 (List.mem_of_getElem? (i := 217) (by decide +kernel))) (by decide +kernel)
theorem m_a68dea8a : (.code y_M_clear b_M_clear 2 (some .int) : Cond) ∈ xt_tbl := xt_in (xt_t13 (List.mem_of_getElem? (i := 218) (by decide +kernel))) (by decide +kernel)
theorem m_5b8a9786 : (.classLink "StackHostLaw" 8 "StackHost" : Cond) ∈ xt_tbl := xt_in (xt_t1 (List.mem_of_getElem? (i := 34) (by decide +kernel))) (by decide +kernel)
theorem m_8b0e565f : (.instantiable "StackHost" 11 : Cond) ∈ xt_tbl := xt_in (xt_t1 (List.mem_of_getElem? (i := 35) (by decide +kernel))) (by decide +kernel)
theorem m_d981becc : (.methodLink "StackHostLaw" 86 y_H_init : Cond) ∈ xt_tbl := xt_in (xt_t1 (List.mem_of_getElem? (i := 36) (by decide +kernel))) (by decide +kernel)
theorem m_8ce46be2 : (.instanceMethod y_H_init : Cond) ∈ xt_tbl := xt_in (xt_t1 (List.mem_of_getElem? (i := 37) (by decide +kernel))) (by decide +kernel)
theorem m_1a0c6c5e : (.code y_H_init b_H_init 1 none : Cond) ∈ xt_tbl := xt_in (xt_t1 (List.mem_of_getElem? (i := 38) (by decide +kernel))) (by decide +kernel)
theorem m_1fd49ce1 : (.classLink "StackHostLaw" 87 "StackHostModel" : Cond) ∈ xt_tbl := xt_in (xt_t9 (List.mem_of_getElem? (i := 88) (by decide +kernel))) (by decide +kernel)
theorem m_45254c46 : (.instantiable "StackHostModel" 97 : Cond) ∈ xt_tbl := xt_in (xt_t9 (List.mem_of_getElem? (i := 89) (by decide +kernel))) (by decide +kernel)
theorem m_54872f0c : (.methodLink "StackHostLaw" 89 y_M_init : Cond) ∈ xt_tbl := xt_in (xt_t9 (List.mem_of_getElem? (i := 90) (by decide +kernel))) (by decide +kernel)
theorem m_7bddef4d : (.instanceMethod y_M_init : Cond) ∈ xt_tbl := xt_in (xt_t9 (List.mem_of_getElem? (i := 91) (by decide +kernel))) (by decide +kernel)
theorem m_bbaef9d1 : (.code y_M_init b_M_init 1 none : Cond) ∈ xt_tbl := xt_in (xt_t9 (List.mem_of_getElem? (i := 92) (by decide +kernel))) (by decide +kernel)
theorem nm_Law_feed : xt_nm y_Law_feed 7 := ⟨by decide +kernel, by decide +kernel⟩
theorem nm_M_feed : xt_nm y_M_feed 5 := ⟨by decide +kernel, by decide +kernel⟩
theorem nm_M_thrown : xt_nm y_M_thrown 0 := ⟨by decide +kernel, by decide +kernel⟩
theorem nm_Law_end : xt_nm y_Law_end 2 := ⟨by decide +kernel, by decide +kernel⟩
theorem nm_M_end : xt_nm y_M_end 1 := ⟨by decide +kernel, by decide +kernel⟩
theorem nm_Law_load : xt_nm y_Law_load 2 := ⟨by decide +kernel, by decide +kernel⟩
theorem nm_M_load : xt_nm y_M_load 0 := ⟨by decide +kernel, by decide +kernel⟩
theorem nm_Law_fault : xt_nm y_Law_fault 3 := ⟨by decide +kernel, by decide +kernel⟩
theorem nm_M_fault : xt_nm y_M_fault 1 := ⟨by decide +kernel, by decide +kernel⟩
theorem nm_Law_module : xt_nm y_Law_module 4 := ⟨by decide +kernel, by decide +kernel⟩
theorem nm_M_module : xt_nm y_M_module 2 := ⟨by decide +kernel, by decide +kernel⟩
theorem nm_Law_room : xt_nm y_Law_room 4 := ⟨by decide +kernel, by decide +kernel⟩
theorem nm_M_room : xt_nm y_M_room 2 := ⟨by decide +kernel, by decide +kernel⟩
theorem nm_Law_instantiate : xt_nm y_Law_instantiate 3 := ⟨by decide +kernel, by decide +kernel⟩
theorem nm_M_instantiate : xt_nm y_M_instantiate 1 := ⟨by decide +kernel, by decide +kernel⟩
theorem nm_Law_name : xt_nm y_Law_name 2 := ⟨by decide +kernel, by decide +kernel⟩
theorem nm_M_name1 : xt_nm y_M_name1 1 := ⟨by decide +kernel, by decide +kernel⟩
theorem nm_Law_find : xt_nm y_Law_find 3 := ⟨by decide +kernel, by decide +kernel⟩
theorem nm_M_find : xt_nm y_M_find 1 := ⟨by decide +kernel, by decide +kernel⟩
theorem nm_Law_exported : xt_nm y_Law_exported 5 := ⟨by decide +kernel, by decide +kernel⟩
theorem nm_M_exported : xt_nm y_M_exported 3 := ⟨by decide +kernel, by decide +kernel⟩
theorem nm_Law_push : xt_nm y_Law_push 3 := ⟨by decide +kernel, by decide +kernel⟩
theorem nm_M_push : xt_nm y_M_push 1 := ⟨by decide +kernel, by decide +kernel⟩
theorem nm_Law_invoke : xt_nm y_Law_invoke 3 := ⟨by decide +kernel, by decide +kernel⟩
theorem nm_M_invoke : xt_nm y_M_invoke 2 := ⟨by decide +kernel, by decide +kernel⟩
theorem nm_Law_run : xt_nm y_Law_run 3 := ⟨by decide +kernel, by decide +kernel⟩
theorem nm_M_run : xt_nm y_M_run 1 := ⟨by decide +kernel, by decide +kernel⟩
theorem nm_H_stop : xt_nm y_H_stop 0 := ⟨by decide +kernel, by decide +kernel⟩
theorem nm_M_stop : xt_nm y_M_stop 0 := ⟨by decide +kernel, by decide +kernel⟩
theorem nm_H_calls : xt_nm y_H_calls 0 := ⟨by decide +kernel, by decide +kernel⟩
theorem nm_M_calls : xt_nm y_M_calls 0 := ⟨by decide +kernel, by decide +kernel⟩
theorem nm_H_result : xt_nm y_H_result 0 := ⟨by decide +kernel, by decide +kernel⟩
theorem nm_M_result : xt_nm y_M_result 0 := ⟨by decide +kernel, by decide +kernel⟩
theorem nm_Law_trap : xt_nm y_Law_trap 3 := ⟨by decide +kernel, by decide +kernel⟩
theorem nm_M_trap : xt_nm y_M_trap 1 := ⟨by decide +kernel, by decide +kernel⟩
theorem nm_Law_pages : xt_nm y_Law_pages 3 := ⟨by decide +kernel, by decide +kernel⟩
theorem nm_M_pages : xt_nm y_M_pages 1 := ⟨by decide +kernel, by decide +kernel⟩
theorem nm_Law_peek : xt_nm y_Law_peek 4 := ⟨by decide +kernel, by decide +kernel⟩
theorem nm_M_peek : xt_nm y_M_peek 2 := ⟨by decide +kernel, by decide +kernel⟩
theorem nm_Law_poke : xt_nm y_Law_poke 4 := ⟨by decide +kernel, by decide +kernel⟩
theorem nm_M_poke : xt_nm y_M_poke 3 := ⟨by decide +kernel, by decide +kernel⟩
theorem nm_Law_variable : xt_nm y_Law_variable 4 := ⟨by decide +kernel, by decide +kernel⟩
theorem nm_M_variable : xt_nm y_M_variable 2 := ⟨by decide +kernel, by decide +kernel⟩
theorem nm_Law_element : xt_nm y_Law_element 4 := ⟨by decide +kernel, by decide +kernel⟩
theorem nm_M_element : xt_nm y_M_element 2 := ⟨by decide +kernel, by decide +kernel⟩
theorem nm_H_wrong : xt_nm y_H_wrong 0 := ⟨by decide +kernel, by decide +kernel⟩
theorem nm_M_wrong : xt_nm y_M_wrong 0 := ⟨by decide +kernel, by decide +kernel⟩
theorem nm_H_outs : xt_nm y_H_outs 0 := ⟨by decide +kernel, by decide +kernel⟩
theorem nm_M_outs : xt_nm y_M_outs 0 := ⟨by decide +kernel, by decide +kernel⟩
theorem nm_Law_out : xt_nm y_Law_out 3 := ⟨by decide +kernel, by decide +kernel⟩
theorem nm_M_out : xt_nm y_M_out 1 := ⟨by decide +kernel, by decide +kernel⟩
theorem nm_H_clear : xt_nm y_H_clear 0 := ⟨by decide +kernel, by decide +kernel⟩
theorem nm_M_clear : xt_nm y_M_clear 0 := ⟨by decide +kernel, by decide +kernel⟩
theorem nm_H_init : xt_nm y_H_init 0 := ⟨by decide +kernel, by decide +kernel⟩
theorem nm_M_init : xt_nm y_M_init 0 := ⟨by decide +kernel, by decide +kernel⟩
def T_Law_law : List (Nat × Instr × Nat) := T_Law_law_0 ++ (T_Law_law_1 ++ (T_Law_law_2 ++ (T_Law_law_3 ++ (T_Law_law_4 ++ (T_Law_law_5 ++ (T_Law_law_6 ++ (T_Law_law_7 ++ (T_Law_law_8 ++ (T_Law_law_9 ++ (T_Law_law_10 ++ (T_Law_law_11 ++ (T_Law_law_12 ++ (T_Law_law_13 ++ (T_Law_law_14 ++ (T_Law_law_15 ++ (T_Law_law_16 ++ (T_Law_law_17 ++ (T_Law_law_18))))))))))))))))))
theorem D_Law_law : ∀ q ∈ T_Law_law, decode b_Law_law q.1 = .ok (q.2.1, q.2.2) := fun q h => (List.mem_append.mp h).elim (D_Law_law_0 q) (fun h => (List.mem_append.mp h).elim (D_Law_law_1 q) (fun h => (List.mem_append.mp h).elim (D_Law_law_2 q) (fun h => (List.mem_append.mp h).elim (D_Law_law_3 q) (fun h => (List.mem_append.mp h).elim (D_Law_law_4 q) (fun h => (List.mem_append.mp h).elim (D_Law_law_5 q) (fun h => (List.mem_append.mp h).elim (D_Law_law_6 q) (fun h => (List.mem_append.mp h).elim (D_Law_law_7 q) (fun h => (List.mem_append.mp h).elim (D_Law_law_8 q) (fun h => (List.mem_append.mp h).elim (D_Law_law_9 q) (fun h => (List.mem_append.mp h).elim (D_Law_law_10 q) (fun h => (List.mem_append.mp h).elim (D_Law_law_11 q) (fun h => (List.mem_append.mp h).elim (D_Law_law_12 q) (fun h => (List.mem_append.mp h).elim (D_Law_law_13 q) (fun h => (List.mem_append.mp h).elim (D_Law_law_14 q) (fun h => (List.mem_append.mp h).elim (D_Law_law_15 q) (fun h => (List.mem_append.mp h).elim (D_Law_law_16 q) (fun h => (List.mem_append.mp h).elim (D_Law_law_17 q) (fun h => D_Law_law_18 q h))))))))))))))))))

/-- a place of the law: the script x0 lies outside of what may be written -/
def xb_am2 (x0 L : Nat) (xs : Nat → Int32) (l : Launch) (D : va_G) (A : Nat → Prop) (σ d MC MS : Nat) (h0 : xb_H) (Qr : Option Value → xb_H → Nat → Nat → Prop) (Qt : String → xb_H → Nat → Nat → Prop) (own nm : String) (cc : ByteArray) (maxL : Nat) (tab : List ExceptionTableEntry) (ret : Option FieldType) (pc : Nat) (lo : List (Nat × Value)) (st : List Value) (h : xb_H) (bc bs : Nat) : Prop :=
  ∀ (p : Program) (e : Env) (s : State) (m : MethodId) (args : Array Value) (below : List Frame) (meth : Method) (c : Code), xb_C own nm cc maxL tab ret A σ p s m meth c → (va_X x0 L xs s s.heap ∧ x0 < s.heap.size ∧ ¬ A x0) →
    ∀ (H : Heap) (locs : List Loc) (ls : Array Slot) (k n : Nat), xb_ext h0 h → lv_has ls maxL lo → xb_R D A h s H → va_S A s.heap H locs → k + bc ≤ MC → n + bs ≤ MS →
      W p l e (xb_rm d MC MS) s m args below meth c H locs k n (xb_MQ below (xb_Qc D A h0 MC MS Qr Qt) args s A) (F0 m pc ls st)
def xb_Pc2 (x0 L : Nat) (xs : Nat → Int32) (D : va_G) (A : Nat → Prop) (σ : Nat) (h : xb_H) (av : List Value) : Array Value → State → Prop := fun v U => xb_Pc D A σ h av v U ∧ va_X x0 L xs U U.heap ∧ x0 < U.heap.size ∧ ¬ A x0
theorem xb_ofAm2 {x0 L : Nat} {xs : Nat → Int32} {l : Launch} {D : va_G} {A : Nat → Prop} {σ : Nat} {h : xb_H} {cc : ByteArray} {y : MethodName} {d bc bs maxL : Nat} {ret : Option FieldType} {av : List Value} {Qr : Option Value → xb_H → Nat → Nat → Prop} {Qt : String → xb_H → Nat → Nat → Prop} (hy : plainName y.cls = true) (hlen : (lg_sl av).length ≤ maxL)
    (ham : xb_am2 x0 L xs l D A σ d bc bs h Qr Qt y.cls y.name cc maxL [] ret 0 (lv_args 0 av) [] h bc bs) : xb_Met l y [Cond.code y cc maxL ret] (xb_rm d bc bs) (xb_Pc2 x0 L xs D A σ h av) (xb_Qc D A h bc bs Qr Qt) A := by
  refine xb_ofW (cc := cc) (maxL := maxL) (ret := ret) hy (List.mem_singleton.mpr rfl) ?_
  intro p e s m args below meth c s₁ B hml htab hv
  obtain ⟨⟨rfl, hA, hB, hR⟩, hX9⟩ := hv
  rw [lg_entry_eq]
  exact ham p e s m _ below meth c ⟨B.exec, B.bytes, findClass_of_methodNamed B.named, B.notSynchronized, htab, hml, B.returns, hB, hA, (name_of_methodNamed B.named B.method).1⟩ hX9 s.heap [] _ 0 0 (xb_ext.rf h) (lv_entry av hlen) hR va_S.rf (by omega) (by omega)

set_option maxHeartbeats 4000000 in
set_option maxRecDepth 100000 in
theorem am_Law_law_L1465 (l : Launch) (hfl : l.flags = pinnedFlags ++ [noTraceFlag]) (D : va_G) (A : Nat → Prop) (σ L : Nat) (xs : Nat → Int32) (MC MS : Nat) (h0 : xb_H) (Qr : Int32 → xb_H → Nat → Nat → Prop) (K23 : Nat → Nat → Nat → Nat → Int32 → xb_H → Nat → Nat → Prop) (hK23 : ∀ (x0 : Nat) (x1 : Nat) (x2 : Nat) (x3 : Nat) (x4 : Int32) (h : xb_H) (bc : Nat) (bs : Nat), K23 x0 x1 x2 x3 x4 h bc bs → xb_am2 x0 L xs l D A σ 15 MC MS h0 (fun v h bc bs => ∃ r, v = some (.int r) ∧ Qr r h bc bs) (fun _ _ _ _ => False) y_Law_law.cls y_Law_law.name b_Law_law 8 ([] : List ExceptionTableEntry) (some .boolean) 23 [(0, .ref x0), (1, .ref x1), (2, .ref x2), (3, .ref x3), (4, .int x4)] [] h bc bs) (x0 : Nat) (x1 : Nat) (x2 : Nat) (x3 : Nat) (x4 : Int32) (h : xb_H) (bc : Nat) (bs : Nat) (hw : w2_Law_law_L1465 σ L xs K23 Qr x0 x1 x2 x3 x4 h bc bs) : xb_am2 x0 L xs l D A σ 15 MC MS h0 (fun v h bc bs => ∃ r, v = some (.int r) ∧ Qr r h bc bs) (fun _ _ _ _ => False) y_Law_law.cls y_Law_law.name b_Law_law 8 ([] : List ExceptionTableEntry) (some .boolean) 1465 [(0, .ref x0), (1, .ref x1), (2, .ref x2), (3, .ref x3), (4, .int x4)] [] h bc bs := by
  unfold w2_Law_law_L1465 at hw
  intro p e s m args below meth c hC hX9 H locs ls k n hE hl hR hS hk hn
  obtain ⟨hX, hbl, hbA⟩ := id hX9
  obtain ⟨hx, hb, hown, hlocks, htab, hml, hr, hB, hA, hnm⟩ := id hC
  have hts := hB.1.1.at args
  refine lv_iinc (v := (x4 + 6)) (k := 4) hx hb (xb_d D_Law_law 868 rfl) hl rfl (by first | rfl | decide) (by decide) rfl (fun ls hl => ?_)
  have hl : lv_has ls 8 [(4, .int (x4 + 6)), (0, .ref x0), (1, .ref x1), (2, .ref x2), (3, .ref x3)] := hl
  refine lv_goto (tgt := 23) hx hb (xb_d D_Law_law 869 rfl) rfl ?_
  exact hK23 x0 x1 x2 x3 (x4 + 6) h bc bs hw p e s m args below meth c hC hX9 H locs ls k n hE (lv_sub hl [1, 2, 3, 4, 0] rfl) hR hS (by omega) (by omega)

set_option maxHeartbeats 4000000 in
set_option maxRecDepth 100000 in
theorem am_Law_law_L1449 (l : Launch) (hfl : l.flags = pinnedFlags ++ [noTraceFlag]) (D : va_G) (A : Nat → Prop) (σ L : Nat) (xs : Nat → Int32) (MC MS : Nat) (h0 : xb_H) (Qr : Int32 → xb_H → Nat → Nat → Prop) (K23 : Nat → Nat → Nat → Nat → Int32 → xb_H → Nat → Nat → Prop) (hK23 : ∀ (x0 : Nat) (x1 : Nat) (x2 : Nat) (x3 : Nat) (x4 : Int32) (h : xb_H) (bc : Nat) (bs : Nat), K23 x0 x1 x2 x3 x4 h bc bs → xb_am2 x0 L xs l D A σ 15 MC MS h0 (fun v h bc bs => ∃ r, v = some (.int r) ∧ Qr r h bc bs) (fun _ _ _ _ => False) y_Law_law.cls y_Law_law.name b_Law_law 8 ([] : List ExceptionTableEntry) (some .boolean) 23 [(0, .ref x0), (1, .ref x1), (2, .ref x2), (3, .ref x3), (4, .int x4)] [] h bc bs) (x0 : Nat) (x1 : Nat) (x2 : Nat) (x3 : Nat) (x4 : Int32) (h : xb_H) (bc : Nat) (bs : Nat) (hw : w2_Law_law_L1449 σ L xs K23 Qr x0 x1 x2 x3 x4 h bc bs) : xb_am2 x0 L xs l D A σ 15 MC MS h0 (fun v h bc bs => ∃ r, v = some (.int r) ∧ Qr r h bc bs) (fun _ _ _ _ => False) y_Law_law.cls y_Law_law.name b_Law_law 8 ([] : List ExceptionTableEntry) (some .boolean) 1449 [(0, .ref x0), (1, .ref x1), (2, .ref x2), (3, .ref x3), (4, .int x4)] [] h bc bs := by
  unfold w2_Law_law_L1449 at hw
  intro p e s m args below meth c hC hX9 H locs ls k n hE hl hR hS hk hn
  obtain ⟨hX, hbl, hbA⟩ := id hX9
  obtain ⟨hx, hb, hown, hlocks, htab, hml, hr, hB, hA, hnm⟩ := id hC
  have hts := hB.1.1.at args
  refine lv_goto (tgt := 1465) hx hb (xb_d D_Law_law 860 rfl) rfl ?_
  exact am_Law_law_L1465 l hfl D A σ L xs MC MS h0 Qr K23 hK23 x0 x1 x2 x3 x4 h bc bs hw p e s m args below meth c hC hX9 H locs ls k n hE (lv_sub hl [0, 1, 2, 3, 4] rfl) hR hS (by omega) (by omega)

set_option maxHeartbeats 4000000 in
set_option maxRecDepth 100000 in
theorem am_Law_law_L1368 (l : Launch) (hfl : l.flags = pinnedFlags ++ [noTraceFlag]) (D : va_G) (A : Nat → Prop) (σ L : Nat) (xs : Nat → Int32) (MC MS : Nat) (h0 : xb_H) (Qr : Int32 → xb_H → Nat → Nat → Prop) (K23 : Nat → Nat → Nat → Nat → Int32 → xb_H → Nat → Nat → Prop) (hK23 : ∀ (x0 : Nat) (x1 : Nat) (x2 : Nat) (x3 : Nat) (x4 : Int32) (h : xb_H) (bc : Nat) (bs : Nat), K23 x0 x1 x2 x3 x4 h bc bs → xb_am2 x0 L xs l D A σ 15 MC MS h0 (fun v h bc bs => ∃ r, v = some (.int r) ∧ Qr r h bc bs) (fun _ _ _ _ => False) y_Law_law.cls y_Law_law.name b_Law_law 8 ([] : List ExceptionTableEntry) (some .boolean) 23 [(0, .ref x0), (1, .ref x1), (2, .ref x2), (3, .ref x3), (4, .int x4)] [] h bc bs) (x0 : Nat) (x1 : Nat) (x2 : Nat) (x3 : Nat) (x4 : Int32) (h : xb_H) (bc : Nat) (bs : Nat) (hw : w2_Law_law_L1368 σ L xs K23 Qr x0 x1 x2 x3 x4 h bc bs) : xb_am2 x0 L xs l D A σ 15 MC MS h0 (fun v h bc bs => ∃ r, v = some (.int r) ∧ Qr r h bc bs) (fun _ _ _ _ => False) y_Law_law.cls y_Law_law.name b_Law_law 8 ([] : List ExceptionTableEntry) (some .boolean) 1368 [(0, .ref x0), (1, .ref x1), (2, .ref x2), (3, .ref x3), (4, .int x4)] [] h bc bs := by
  unfold w2_Law_law_L1368 at hw
  intro p e s m args below meth c hC hX9 H locs ls k n hE hl hR hS hk hn
  obtain ⟨hX, hbl, hbA⟩ := id hX9
  obtain ⟨hx, hb, hown, hlocks, htab, hml, hr, hB, hA, hnm⟩ := id hC
  have hts := hB.1.1.at args
  refine lv_goto (tgt := 1465) hx hb (xb_d D_Law_law 812 rfl) rfl ?_
  exact am_Law_law_L1465 l hfl D A σ L xs MC MS h0 Qr K23 hK23 x0 x1 x2 x3 x4 h bc bs hw p e s m args below meth c hC hX9 H locs ls k n hE (lv_sub hl [0, 1, 2, 3, 4] rfl) hR hS (by omega) (by omega)

set_option maxHeartbeats 4000000 in
set_option maxRecDepth 100000 in
theorem am_Law_law_L1300 (l : Launch) (hfl : l.flags = pinnedFlags ++ [noTraceFlag]) (D : va_G) (A : Nat → Prop) (σ L : Nat) (xs : Nat → Int32) (MC MS : Nat) (h0 : xb_H) (Qr : Int32 → xb_H → Nat → Nat → Prop) (K23 : Nat → Nat → Nat → Nat → Int32 → xb_H → Nat → Nat → Prop) (hK23 : ∀ (x0 : Nat) (x1 : Nat) (x2 : Nat) (x3 : Nat) (x4 : Int32) (h : xb_H) (bc : Nat) (bs : Nat), K23 x0 x1 x2 x3 x4 h bc bs → xb_am2 x0 L xs l D A σ 15 MC MS h0 (fun v h bc bs => ∃ r, v = some (.int r) ∧ Qr r h bc bs) (fun _ _ _ _ => False) y_Law_law.cls y_Law_law.name b_Law_law 8 ([] : List ExceptionTableEntry) (some .boolean) 23 [(0, .ref x0), (1, .ref x1), (2, .ref x2), (3, .ref x3), (4, .int x4)] [] h bc bs) (x0 : Nat) (x1 : Nat) (x2 : Nat) (x3 : Nat) (x4 : Int32) (h : xb_H) (bc : Nat) (bs : Nat) (hw : w2_Law_law_L1300 σ L xs K23 Qr x0 x1 x2 x3 x4 h bc bs) : xb_am2 x0 L xs l D A σ 15 MC MS h0 (fun v h bc bs => ∃ r, v = some (.int r) ∧ Qr r h bc bs) (fun _ _ _ _ => False) y_Law_law.cls y_Law_law.name b_Law_law 8 ([] : List ExceptionTableEntry) (some .boolean) 1300 [(0, .ref x0), (1, .ref x1), (2, .ref x2), (3, .ref x3), (4, .int x4)] [] h bc bs := by
  unfold w2_Law_law_L1300 at hw
  intro p e s m args below meth c hC hX9 H locs ls k n hE hl hR hS hk hn
  obtain ⟨hX, hbl, hbA⟩ := id hX9
  obtain ⟨hx, hb, hown, hlocks, htab, hml, hr, hB, hA, hnm⟩ := id hC
  have hts := hB.1.1.at args
  refine lv_goto (tgt := 1465) hx hb (xb_d D_Law_law 767 rfl) rfl ?_
  exact am_Law_law_L1465 l hfl D A σ L xs MC MS h0 Qr K23 hK23 x0 x1 x2 x3 x4 h bc bs hw p e s m args below meth c hC hX9 H locs ls k n hE (lv_sub hl [0, 1, 2, 3, 4] rfl) hR hS (by omega) (by omega)

set_option maxHeartbeats 4000000 in
set_option maxRecDepth 100000 in
theorem am_Law_law_L1173 (l : Launch) (hfl : l.flags = pinnedFlags ++ [noTraceFlag]) (D : va_G) (A : Nat → Prop) (σ L : Nat) (xs : Nat → Int32) (MC MS : Nat) (h0 : xb_H) (Qr : Int32 → xb_H → Nat → Nat → Prop) (K23 : Nat → Nat → Nat → Nat → Int32 → xb_H → Nat → Nat → Prop) (hK23 : ∀ (x0 : Nat) (x1 : Nat) (x2 : Nat) (x3 : Nat) (x4 : Int32) (h : xb_H) (bc : Nat) (bs : Nat), K23 x0 x1 x2 x3 x4 h bc bs → xb_am2 x0 L xs l D A σ 15 MC MS h0 (fun v h bc bs => ∃ r, v = some (.int r) ∧ Qr r h bc bs) (fun _ _ _ _ => False) y_Law_law.cls y_Law_law.name b_Law_law 8 ([] : List ExceptionTableEntry) (some .boolean) 23 [(0, .ref x0), (1, .ref x1), (2, .ref x2), (3, .ref x3), (4, .int x4)] [] h bc bs) (x0 : Nat) (x1 : Nat) (x2 : Nat) (x3 : Nat) (x4 : Int32) (h : xb_H) (bc : Nat) (bs : Nat) (hw : w2_Law_law_L1173 σ L xs K23 Qr x0 x1 x2 x3 x4 h bc bs) : xb_am2 x0 L xs l D A σ 15 MC MS h0 (fun v h bc bs => ∃ r, v = some (.int r) ∧ Qr r h bc bs) (fun _ _ _ _ => False) y_Law_law.cls y_Law_law.name b_Law_law 8 ([] : List ExceptionTableEntry) (some .boolean) 1173 [(0, .ref x0), (1, .ref x1), (2, .ref x2), (3, .ref x3), (4, .int x4)] [] h bc bs := by
  unfold w2_Law_law_L1173 at hw
  intro p e s m args below meth c hC hX9 H locs ls k n hE hl hR hS hk hn
  obtain ⟨hX, hbl, hbA⟩ := id hX9
  obtain ⟨hx, hb, hown, hlocks, htab, hml, hr, hB, hA, hnm⟩ := id hC
  have hts := hB.1.1.at args
  refine lv_goto (tgt := 1465) hx hb (xb_d D_Law_law 681 rfl) rfl ?_
  exact am_Law_law_L1465 l hfl D A σ L xs MC MS h0 Qr K23 hK23 x0 x1 x2 x3 x4 h bc bs hw p e s m args below meth c hC hX9 H locs ls k n hE (lv_sub hl [0, 1, 2, 3, 4] rfl) hR hS (by omega) (by omega)

set_option maxHeartbeats 4000000 in
set_option maxRecDepth 100000 in
theorem am_Law_law_L1105 (l : Launch) (hfl : l.flags = pinnedFlags ++ [noTraceFlag]) (D : va_G) (A : Nat → Prop) (σ L : Nat) (xs : Nat → Int32) (MC MS : Nat) (h0 : xb_H) (Qr : Int32 → xb_H → Nat → Nat → Prop) (K23 : Nat → Nat → Nat → Nat → Int32 → xb_H → Nat → Nat → Prop) (hK23 : ∀ (x0 : Nat) (x1 : Nat) (x2 : Nat) (x3 : Nat) (x4 : Int32) (h : xb_H) (bc : Nat) (bs : Nat), K23 x0 x1 x2 x3 x4 h bc bs → xb_am2 x0 L xs l D A σ 15 MC MS h0 (fun v h bc bs => ∃ r, v = some (.int r) ∧ Qr r h bc bs) (fun _ _ _ _ => False) y_Law_law.cls y_Law_law.name b_Law_law 8 ([] : List ExceptionTableEntry) (some .boolean) 23 [(0, .ref x0), (1, .ref x1), (2, .ref x2), (3, .ref x3), (4, .int x4)] [] h bc bs) (x0 : Nat) (x1 : Nat) (x2 : Nat) (x3 : Nat) (x4 : Int32) (h : xb_H) (bc : Nat) (bs : Nat) (hw : w2_Law_law_L1105 σ L xs K23 Qr x0 x1 x2 x3 x4 h bc bs) : xb_am2 x0 L xs l D A σ 15 MC MS h0 (fun v h bc bs => ∃ r, v = some (.int r) ∧ Qr r h bc bs) (fun _ _ _ _ => False) y_Law_law.cls y_Law_law.name b_Law_law 8 ([] : List ExceptionTableEntry) (some .boolean) 1105 [(0, .ref x0), (1, .ref x1), (2, .ref x2), (3, .ref x3), (4, .int x4)] [] h bc bs := by
  unfold w2_Law_law_L1105 at hw
  intro p e s m args below meth c hC hX9 H locs ls k n hE hl hR hS hk hn
  obtain ⟨hX, hbl, hbA⟩ := id hX9
  obtain ⟨hx, hb, hown, hlocks, htab, hml, hr, hB, hA, hnm⟩ := id hC
  have hts := hB.1.1.at args
  refine lv_goto (tgt := 1465) hx hb (xb_d D_Law_law 636 rfl) rfl ?_
  exact am_Law_law_L1465 l hfl D A σ L xs MC MS h0 Qr K23 hK23 x0 x1 x2 x3 x4 h bc bs hw p e s m args below meth c hC hX9 H locs ls k n hE (lv_sub hl [0, 1, 2, 3, 4] rfl) hR hS (by omega) (by omega)

set_option maxHeartbeats 4000000 in
set_option maxRecDepth 100000 in
theorem am_Law_law_L1049 (l : Launch) (hfl : l.flags = pinnedFlags ++ [noTraceFlag]) (D : va_G) (A : Nat → Prop) (σ L : Nat) (xs : Nat → Int32) (MC MS : Nat) (h0 : xb_H) (Qr : Int32 → xb_H → Nat → Nat → Prop) (K23 : Nat → Nat → Nat → Nat → Int32 → xb_H → Nat → Nat → Prop) (hK23 : ∀ (x0 : Nat) (x1 : Nat) (x2 : Nat) (x3 : Nat) (x4 : Int32) (h : xb_H) (bc : Nat) (bs : Nat), K23 x0 x1 x2 x3 x4 h bc bs → xb_am2 x0 L xs l D A σ 15 MC MS h0 (fun v h bc bs => ∃ r, v = some (.int r) ∧ Qr r h bc bs) (fun _ _ _ _ => False) y_Law_law.cls y_Law_law.name b_Law_law 8 ([] : List ExceptionTableEntry) (some .boolean) 23 [(0, .ref x0), (1, .ref x1), (2, .ref x2), (3, .ref x3), (4, .int x4)] [] h bc bs) (x0 : Nat) (x1 : Nat) (x2 : Nat) (x3 : Nat) (x4 : Int32) (h : xb_H) (bc : Nat) (bs : Nat) (hw : w2_Law_law_L1049 σ L xs K23 Qr x0 x1 x2 x3 x4 h bc bs) : xb_am2 x0 L xs l D A σ 15 MC MS h0 (fun v h bc bs => ∃ r, v = some (.int r) ∧ Qr r h bc bs) (fun _ _ _ _ => False) y_Law_law.cls y_Law_law.name b_Law_law 8 ([] : List ExceptionTableEntry) (some .boolean) 1049 [(0, .ref x0), (1, .ref x1), (2, .ref x2), (3, .ref x3), (4, .int x4)] [] h bc bs := by
  unfold w2_Law_law_L1049 at hw
  intro p e s m args below meth c hC hX9 H locs ls k n hE hl hR hS hk hn
  obtain ⟨hX, hbl, hbA⟩ := id hX9
  obtain ⟨hx, hb, hown, hlocks, htab, hml, hr, hB, hA, hnm⟩ := id hC
  have hts := hB.1.1.at args
  refine lv_goto (tgt := 1465) hx hb (xb_d D_Law_law 601 rfl) rfl ?_
  exact am_Law_law_L1465 l hfl D A σ L xs MC MS h0 Qr K23 hK23 x0 x1 x2 x3 x4 h bc bs hw p e s m args below meth c hC hX9 H locs ls k n hE (lv_sub hl [0, 1, 2, 3, 4] rfl) hR hS (by omega) (by omega)

set_option maxHeartbeats 4000000 in
set_option maxRecDepth 100000 in
theorem am_Law_law_L953 (l : Launch) (hfl : l.flags = pinnedFlags ++ [noTraceFlag]) (D : va_G) (A : Nat → Prop) (σ L : Nat) (xs : Nat → Int32) (MC MS : Nat) (h0 : xb_H) (Qr : Int32 → xb_H → Nat → Nat → Prop) (K23 : Nat → Nat → Nat → Nat → Int32 → xb_H → Nat → Nat → Prop) (hK23 : ∀ (x0 : Nat) (x1 : Nat) (x2 : Nat) (x3 : Nat) (x4 : Int32) (h : xb_H) (bc : Nat) (bs : Nat), K23 x0 x1 x2 x3 x4 h bc bs → xb_am2 x0 L xs l D A σ 15 MC MS h0 (fun v h bc bs => ∃ r, v = some (.int r) ∧ Qr r h bc bs) (fun _ _ _ _ => False) y_Law_law.cls y_Law_law.name b_Law_law 8 ([] : List ExceptionTableEntry) (some .boolean) 23 [(0, .ref x0), (1, .ref x1), (2, .ref x2), (3, .ref x3), (4, .int x4)] [] h bc bs) (x0 : Nat) (x1 : Nat) (x2 : Nat) (x3 : Nat) (x4 : Int32) (h : xb_H) (bc : Nat) (bs : Nat) (hw : w2_Law_law_L953 σ L xs K23 Qr x0 x1 x2 x3 x4 h bc bs) : xb_am2 x0 L xs l D A σ 15 MC MS h0 (fun v h bc bs => ∃ r, v = some (.int r) ∧ Qr r h bc bs) (fun _ _ _ _ => False) y_Law_law.cls y_Law_law.name b_Law_law 8 ([] : List ExceptionTableEntry) (some .boolean) 953 [(0, .ref x0), (1, .ref x1), (2, .ref x2), (3, .ref x3), (4, .int x4)] [] h bc bs := by
  unfold w2_Law_law_L953 at hw
  intro p e s m args below meth c hC hX9 H locs ls k n hE hl hR hS hk hn
  obtain ⟨hX, hbl, hbA⟩ := id hX9
  obtain ⟨hx, hb, hown, hlocks, htab, hml, hr, hB, hA, hnm⟩ := id hC
  have hts := hB.1.1.at args
  refine lv_goto (tgt := 1465) hx hb (xb_d D_Law_law 544 rfl) rfl ?_
  exact am_Law_law_L1465 l hfl D A σ L xs MC MS h0 Qr K23 hK23 x0 x1 x2 x3 x4 h bc bs hw p e s m args below meth c hC hX9 H locs ls k n hE (lv_sub hl [0, 1, 2, 3, 4] rfl) hR hS (by omega) (by omega)

set_option maxHeartbeats 4000000 in
set_option maxRecDepth 100000 in
theorem am_Law_law_L849 (l : Launch) (hfl : l.flags = pinnedFlags ++ [noTraceFlag]) (D : va_G) (A : Nat → Prop) (σ L : Nat) (xs : Nat → Int32) (MC MS : Nat) (h0 : xb_H) (Qr : Int32 → xb_H → Nat → Nat → Prop) (K23 : Nat → Nat → Nat → Nat → Int32 → xb_H → Nat → Nat → Prop) (hK23 : ∀ (x0 : Nat) (x1 : Nat) (x2 : Nat) (x3 : Nat) (x4 : Int32) (h : xb_H) (bc : Nat) (bs : Nat), K23 x0 x1 x2 x3 x4 h bc bs → xb_am2 x0 L xs l D A σ 15 MC MS h0 (fun v h bc bs => ∃ r, v = some (.int r) ∧ Qr r h bc bs) (fun _ _ _ _ => False) y_Law_law.cls y_Law_law.name b_Law_law 8 ([] : List ExceptionTableEntry) (some .boolean) 23 [(0, .ref x0), (1, .ref x1), (2, .ref x2), (3, .ref x3), (4, .int x4)] [] h bc bs) (x0 : Nat) (x1 : Nat) (x2 : Nat) (x3 : Nat) (x4 : Int32) (h : xb_H) (bc : Nat) (bs : Nat) (hw : w2_Law_law_L849 σ L xs K23 Qr x0 x1 x2 x3 x4 h bc bs) : xb_am2 x0 L xs l D A σ 15 MC MS h0 (fun v h bc bs => ∃ r, v = some (.int r) ∧ Qr r h bc bs) (fun _ _ _ _ => False) y_Law_law.cls y_Law_law.name b_Law_law 8 ([] : List ExceptionTableEntry) (some .boolean) 849 [(0, .ref x0), (1, .ref x1), (2, .ref x2), (3, .ref x3), (4, .int x4)] [] h bc bs := by
  unfold w2_Law_law_L849 at hw
  intro p e s m args below meth c hC hX9 H locs ls k n hE hl hR hS hk hn
  obtain ⟨hX, hbl, hbA⟩ := id hX9
  obtain ⟨hx, hb, hown, hlocks, htab, hml, hr, hB, hA, hnm⟩ := id hC
  have hts := hB.1.1.at args
  refine lv_goto (tgt := 1465) hx hb (xb_d D_Law_law 477 rfl) rfl ?_
  exact am_Law_law_L1465 l hfl D A σ L xs MC MS h0 Qr K23 hK23 x0 x1 x2 x3 x4 h bc bs hw p e s m args below meth c hC hX9 H locs ls k n hE (lv_sub hl [0, 1, 2, 3, 4] rfl) hR hS (by omega) (by omega)

set_option maxHeartbeats 4000000 in
set_option maxRecDepth 100000 in
theorem am_Law_law_L761 (l : Launch) (hfl : l.flags = pinnedFlags ++ [noTraceFlag]) (D : va_G) (A : Nat → Prop) (σ L : Nat) (xs : Nat → Int32) (MC MS : Nat) (h0 : xb_H) (Qr : Int32 → xb_H → Nat → Nat → Prop) (K23 : Nat → Nat → Nat → Nat → Int32 → xb_H → Nat → Nat → Prop) (hK23 : ∀ (x0 : Nat) (x1 : Nat) (x2 : Nat) (x3 : Nat) (x4 : Int32) (h : xb_H) (bc : Nat) (bs : Nat), K23 x0 x1 x2 x3 x4 h bc bs → xb_am2 x0 L xs l D A σ 15 MC MS h0 (fun v h bc bs => ∃ r, v = some (.int r) ∧ Qr r h bc bs) (fun _ _ _ _ => False) y_Law_law.cls y_Law_law.name b_Law_law 8 ([] : List ExceptionTableEntry) (some .boolean) 23 [(0, .ref x0), (1, .ref x1), (2, .ref x2), (3, .ref x3), (4, .int x4)] [] h bc bs) (x0 : Nat) (x1 : Nat) (x2 : Nat) (x3 : Nat) (x4 : Int32) (h : xb_H) (bc : Nat) (bs : Nat) (hw : w2_Law_law_L761 σ L xs K23 Qr x0 x1 x2 x3 x4 h bc bs) : xb_am2 x0 L xs l D A σ 15 MC MS h0 (fun v h bc bs => ∃ r, v = some (.int r) ∧ Qr r h bc bs) (fun _ _ _ _ => False) y_Law_law.cls y_Law_law.name b_Law_law 8 ([] : List ExceptionTableEntry) (some .boolean) 761 [(0, .ref x0), (1, .ref x1), (2, .ref x2), (3, .ref x3), (4, .int x4)] [] h bc bs := by
  unfold w2_Law_law_L761 at hw
  intro p e s m args below meth c hC hX9 H locs ls k n hE hl hR hS hk hn
  obtain ⟨hX, hbl, hbA⟩ := id hX9
  obtain ⟨hx, hb, hown, hlocks, htab, hml, hr, hB, hA, hnm⟩ := id hC
  have hts := hB.1.1.at args
  refine lv_goto (tgt := 1465) hx hb (xb_d D_Law_law 418 rfl) rfl ?_
  exact am_Law_law_L1465 l hfl D A σ L xs MC MS h0 Qr K23 hK23 x0 x1 x2 x3 x4 h bc bs hw p e s m args below meth c hC hX9 H locs ls k n hE (lv_sub hl [0, 1, 2, 3, 4] rfl) hR hS (by omega) (by omega)

set_option maxHeartbeats 4000000 in
set_option maxRecDepth 100000 in
theorem am_Law_law_L681 (l : Launch) (hfl : l.flags = pinnedFlags ++ [noTraceFlag]) (D : va_G) (A : Nat → Prop) (σ L : Nat) (xs : Nat → Int32) (MC MS : Nat) (h0 : xb_H) (Qr : Int32 → xb_H → Nat → Nat → Prop) (K23 : Nat → Nat → Nat → Nat → Int32 → xb_H → Nat → Nat → Prop) (hK23 : ∀ (x0 : Nat) (x1 : Nat) (x2 : Nat) (x3 : Nat) (x4 : Int32) (h : xb_H) (bc : Nat) (bs : Nat), K23 x0 x1 x2 x3 x4 h bc bs → xb_am2 x0 L xs l D A σ 15 MC MS h0 (fun v h bc bs => ∃ r, v = some (.int r) ∧ Qr r h bc bs) (fun _ _ _ _ => False) y_Law_law.cls y_Law_law.name b_Law_law 8 ([] : List ExceptionTableEntry) (some .boolean) 23 [(0, .ref x0), (1, .ref x1), (2, .ref x2), (3, .ref x3), (4, .int x4)] [] h bc bs) (x0 : Nat) (x1 : Nat) (x2 : Nat) (x3 : Nat) (x4 : Int32) (h : xb_H) (bc : Nat) (bs : Nat) (hw : w2_Law_law_L681 σ L xs K23 Qr x0 x1 x2 x3 x4 h bc bs) : xb_am2 x0 L xs l D A σ 15 MC MS h0 (fun v h bc bs => ∃ r, v = some (.int r) ∧ Qr r h bc bs) (fun _ _ _ _ => False) y_Law_law.cls y_Law_law.name b_Law_law 8 ([] : List ExceptionTableEntry) (some .boolean) 681 [(0, .ref x0), (1, .ref x1), (2, .ref x2), (3, .ref x3), (4, .int x4)] [] h bc bs := by
  unfold w2_Law_law_L681 at hw
  intro p e s m args below meth c hC hX9 H locs ls k n hE hl hR hS hk hn
  obtain ⟨hX, hbl, hbA⟩ := id hX9
  obtain ⟨hx, hb, hown, hlocks, htab, hml, hr, hB, hA, hnm⟩ := id hC
  have hts := hB.1.1.at args
  refine lv_goto (tgt := 1465) hx hb (xb_d D_Law_law 363 rfl) rfl ?_
  exact am_Law_law_L1465 l hfl D A σ L xs MC MS h0 Qr K23 hK23 x0 x1 x2 x3 x4 h bc bs hw p e s m args below meth c hC hX9 H locs ls k n hE (lv_sub hl [0, 1, 2, 3, 4] rfl) hR hS (by omega) (by omega)

set_option maxHeartbeats 4000000 in
set_option maxRecDepth 100000 in
theorem am_Law_law_L589 (l : Launch) (hfl : l.flags = pinnedFlags ++ [noTraceFlag]) (D : va_G) (A : Nat → Prop) (σ L : Nat) (xs : Nat → Int32) (MC MS : Nat) (h0 : xb_H) (Qr : Int32 → xb_H → Nat → Nat → Prop) (K23 : Nat → Nat → Nat → Nat → Int32 → xb_H → Nat → Nat → Prop) (hK23 : ∀ (x0 : Nat) (x1 : Nat) (x2 : Nat) (x3 : Nat) (x4 : Int32) (h : xb_H) (bc : Nat) (bs : Nat), K23 x0 x1 x2 x3 x4 h bc bs → xb_am2 x0 L xs l D A σ 15 MC MS h0 (fun v h bc bs => ∃ r, v = some (.int r) ∧ Qr r h bc bs) (fun _ _ _ _ => False) y_Law_law.cls y_Law_law.name b_Law_law 8 ([] : List ExceptionTableEntry) (some .boolean) 23 [(0, .ref x0), (1, .ref x1), (2, .ref x2), (3, .ref x3), (4, .int x4)] [] h bc bs) (x0 : Nat) (x1 : Nat) (x2 : Nat) (x3 : Nat) (x4 : Int32) (h : xb_H) (bc : Nat) (bs : Nat) (hw : w2_Law_law_L589 σ L xs K23 Qr x0 x1 x2 x3 x4 h bc bs) : xb_am2 x0 L xs l D A σ 15 MC MS h0 (fun v h bc bs => ∃ r, v = some (.int r) ∧ Qr r h bc bs) (fun _ _ _ _ => False) y_Law_law.cls y_Law_law.name b_Law_law 8 ([] : List ExceptionTableEntry) (some .boolean) 589 [(0, .ref x0), (1, .ref x1), (2, .ref x2), (3, .ref x3), (4, .int x4)] [] h bc bs := by
  unfold w2_Law_law_L589 at hw
  intro p e s m args below meth c hC hX9 H locs ls k n hE hl hR hS hk hn
  obtain ⟨hX, hbl, hbA⟩ := id hX9
  obtain ⟨hx, hb, hown, hlocks, htab, hml, hr, hB, hA, hnm⟩ := id hC
  have hts := hB.1.1.at args
  refine lv_goto (tgt := 1465) hx hb (xb_d D_Law_law 306 rfl) rfl ?_
  exact am_Law_law_L1465 l hfl D A σ L xs MC MS h0 Qr K23 hK23 x0 x1 x2 x3 x4 h bc bs hw p e s m args below meth c hC hX9 H locs ls k n hE (lv_sub hl [0, 1, 2, 3, 4] rfl) hR hS (by omega) (by omega)

set_option maxHeartbeats 4000000 in
set_option maxRecDepth 100000 in
theorem am_Law_law_L533 (l : Launch) (hfl : l.flags = pinnedFlags ++ [noTraceFlag]) (D : va_G) (A : Nat → Prop) (σ L : Nat) (xs : Nat → Int32) (MC MS : Nat) (h0 : xb_H) (Qr : Int32 → xb_H → Nat → Nat → Prop) (K23 : Nat → Nat → Nat → Nat → Int32 → xb_H → Nat → Nat → Prop) (hK23 : ∀ (x0 : Nat) (x1 : Nat) (x2 : Nat) (x3 : Nat) (x4 : Int32) (h : xb_H) (bc : Nat) (bs : Nat), K23 x0 x1 x2 x3 x4 h bc bs → xb_am2 x0 L xs l D A σ 15 MC MS h0 (fun v h bc bs => ∃ r, v = some (.int r) ∧ Qr r h bc bs) (fun _ _ _ _ => False) y_Law_law.cls y_Law_law.name b_Law_law 8 ([] : List ExceptionTableEntry) (some .boolean) 23 [(0, .ref x0), (1, .ref x1), (2, .ref x2), (3, .ref x3), (4, .int x4)] [] h bc bs) (x0 : Nat) (x1 : Nat) (x2 : Nat) (x3 : Nat) (x4 : Int32) (h : xb_H) (bc : Nat) (bs : Nat) (hw : w2_Law_law_L533 σ L xs K23 Qr x0 x1 x2 x3 x4 h bc bs) : xb_am2 x0 L xs l D A σ 15 MC MS h0 (fun v h bc bs => ∃ r, v = some (.int r) ∧ Qr r h bc bs) (fun _ _ _ _ => False) y_Law_law.cls y_Law_law.name b_Law_law 8 ([] : List ExceptionTableEntry) (some .boolean) 533 [(0, .ref x0), (1, .ref x1), (2, .ref x2), (3, .ref x3), (4, .int x4)] [] h bc bs := by
  unfold w2_Law_law_L533 at hw
  intro p e s m args below meth c hC hX9 H locs ls k n hE hl hR hS hk hn
  obtain ⟨hX, hbl, hbA⟩ := id hX9
  obtain ⟨hx, hb, hown, hlocks, htab, hml, hr, hB, hA, hnm⟩ := id hC
  have hts := hB.1.1.at args
  refine lv_goto (tgt := 1465) hx hb (xb_d D_Law_law 271 rfl) rfl ?_
  exact am_Law_law_L1465 l hfl D A σ L xs MC MS h0 Qr K23 hK23 x0 x1 x2 x3 x4 h bc bs hw p e s m args below meth c hC hX9 H locs ls k n hE (lv_sub hl [0, 1, 2, 3, 4] rfl) hR hS (by omega) (by omega)

set_option maxHeartbeats 4000000 in
set_option maxRecDepth 100000 in
theorem am_Law_law_L465 (l : Launch) (hfl : l.flags = pinnedFlags ++ [noTraceFlag]) (D : va_G) (A : Nat → Prop) (σ L : Nat) (xs : Nat → Int32) (MC MS : Nat) (h0 : xb_H) (Qr : Int32 → xb_H → Nat → Nat → Prop) (K23 : Nat → Nat → Nat → Nat → Int32 → xb_H → Nat → Nat → Prop) (hK23 : ∀ (x0 : Nat) (x1 : Nat) (x2 : Nat) (x3 : Nat) (x4 : Int32) (h : xb_H) (bc : Nat) (bs : Nat), K23 x0 x1 x2 x3 x4 h bc bs → xb_am2 x0 L xs l D A σ 15 MC MS h0 (fun v h bc bs => ∃ r, v = some (.int r) ∧ Qr r h bc bs) (fun _ _ _ _ => False) y_Law_law.cls y_Law_law.name b_Law_law 8 ([] : List ExceptionTableEntry) (some .boolean) 23 [(0, .ref x0), (1, .ref x1), (2, .ref x2), (3, .ref x3), (4, .int x4)] [] h bc bs) (x0 : Nat) (x1 : Nat) (x2 : Nat) (x3 : Nat) (x4 : Int32) (h : xb_H) (bc : Nat) (bs : Nat) (hw : w2_Law_law_L465 σ L xs K23 Qr x0 x1 x2 x3 x4 h bc bs) : xb_am2 x0 L xs l D A σ 15 MC MS h0 (fun v h bc bs => ∃ r, v = some (.int r) ∧ Qr r h bc bs) (fun _ _ _ _ => False) y_Law_law.cls y_Law_law.name b_Law_law 8 ([] : List ExceptionTableEntry) (some .boolean) 465 [(0, .ref x0), (1, .ref x1), (2, .ref x2), (3, .ref x3), (4, .int x4)] [] h bc bs := by
  unfold w2_Law_law_L465 at hw
  intro p e s m args below meth c hC hX9 H locs ls k n hE hl hR hS hk hn
  obtain ⟨hX, hbl, hbA⟩ := id hX9
  obtain ⟨hx, hb, hown, hlocks, htab, hml, hr, hB, hA, hnm⟩ := id hC
  have hts := hB.1.1.at args
  refine lv_goto (tgt := 1465) hx hb (xb_d D_Law_law 226 rfl) rfl ?_
  exact am_Law_law_L1465 l hfl D A σ L xs MC MS h0 Qr K23 hK23 x0 x1 x2 x3 x4 h bc bs hw p e s m args below meth c hC hX9 H locs ls k n hE (lv_sub hl [0, 1, 2, 3, 4] rfl) hR hS (by omega) (by omega)

set_option maxHeartbeats 4000000 in
set_option maxRecDepth 100000 in
theorem am_Law_law_L397 (l : Launch) (hfl : l.flags = pinnedFlags ++ [noTraceFlag]) (D : va_G) (A : Nat → Prop) (σ L : Nat) (xs : Nat → Int32) (MC MS : Nat) (h0 : xb_H) (Qr : Int32 → xb_H → Nat → Nat → Prop) (K23 : Nat → Nat → Nat → Nat → Int32 → xb_H → Nat → Nat → Prop) (hK23 : ∀ (x0 : Nat) (x1 : Nat) (x2 : Nat) (x3 : Nat) (x4 : Int32) (h : xb_H) (bc : Nat) (bs : Nat), K23 x0 x1 x2 x3 x4 h bc bs → xb_am2 x0 L xs l D A σ 15 MC MS h0 (fun v h bc bs => ∃ r, v = some (.int r) ∧ Qr r h bc bs) (fun _ _ _ _ => False) y_Law_law.cls y_Law_law.name b_Law_law 8 ([] : List ExceptionTableEntry) (some .boolean) 23 [(0, .ref x0), (1, .ref x1), (2, .ref x2), (3, .ref x3), (4, .int x4)] [] h bc bs) (x0 : Nat) (x1 : Nat) (x2 : Nat) (x3 : Nat) (x4 : Int32) (h : xb_H) (bc : Nat) (bs : Nat) (hw : w2_Law_law_L397 σ L xs K23 Qr x0 x1 x2 x3 x4 h bc bs) : xb_am2 x0 L xs l D A σ 15 MC MS h0 (fun v h bc bs => ∃ r, v = some (.int r) ∧ Qr r h bc bs) (fun _ _ _ _ => False) y_Law_law.cls y_Law_law.name b_Law_law 8 ([] : List ExceptionTableEntry) (some .boolean) 397 [(0, .ref x0), (1, .ref x1), (2, .ref x2), (3, .ref x3), (4, .int x4)] [] h bc bs := by
  unfold w2_Law_law_L397 at hw
  intro p e s m args below meth c hC hX9 H locs ls k n hE hl hR hS hk hn
  obtain ⟨hX, hbl, hbA⟩ := id hX9
  obtain ⟨hx, hb, hown, hlocks, htab, hml, hr, hB, hA, hnm⟩ := id hC
  have hts := hB.1.1.at args
  refine lv_goto (tgt := 1465) hx hb (xb_d D_Law_law 181 rfl) rfl ?_
  exact am_Law_law_L1465 l hfl D A σ L xs MC MS h0 Qr K23 hK23 x0 x1 x2 x3 x4 h bc bs hw p e s m args below meth c hC hX9 H locs ls k n hE (lv_sub hl [0, 1, 2, 3, 4] rfl) hR hS (by omega) (by omega)

set_option maxHeartbeats 4000000 in
set_option maxRecDepth 100000 in
theorem am_Law_law_L341 (l : Launch) (hfl : l.flags = pinnedFlags ++ [noTraceFlag]) (D : va_G) (A : Nat → Prop) (σ L : Nat) (xs : Nat → Int32) (MC MS : Nat) (h0 : xb_H) (Qr : Int32 → xb_H → Nat → Nat → Prop) (K23 : Nat → Nat → Nat → Nat → Int32 → xb_H → Nat → Nat → Prop) (hK23 : ∀ (x0 : Nat) (x1 : Nat) (x2 : Nat) (x3 : Nat) (x4 : Int32) (h : xb_H) (bc : Nat) (bs : Nat), K23 x0 x1 x2 x3 x4 h bc bs → xb_am2 x0 L xs l D A σ 15 MC MS h0 (fun v h bc bs => ∃ r, v = some (.int r) ∧ Qr r h bc bs) (fun _ _ _ _ => False) y_Law_law.cls y_Law_law.name b_Law_law 8 ([] : List ExceptionTableEntry) (some .boolean) 23 [(0, .ref x0), (1, .ref x1), (2, .ref x2), (3, .ref x3), (4, .int x4)] [] h bc bs) (x0 : Nat) (x1 : Nat) (x2 : Nat) (x3 : Nat) (x4 : Int32) (h : xb_H) (bc : Nat) (bs : Nat) (hw : w2_Law_law_L341 σ L xs K23 Qr x0 x1 x2 x3 x4 h bc bs) : xb_am2 x0 L xs l D A σ 15 MC MS h0 (fun v h bc bs => ∃ r, v = some (.int r) ∧ Qr r h bc bs) (fun _ _ _ _ => False) y_Law_law.cls y_Law_law.name b_Law_law 8 ([] : List ExceptionTableEntry) (some .boolean) 341 [(0, .ref x0), (1, .ref x1), (2, .ref x2), (3, .ref x3), (4, .int x4)] [] h bc bs := by
  unfold w2_Law_law_L341 at hw
  intro p e s m args below meth c hC hX9 H locs ls k n hE hl hR hS hk hn
  obtain ⟨hX, hbl, hbA⟩ := id hX9
  obtain ⟨hx, hb, hown, hlocks, htab, hml, hr, hB, hA, hnm⟩ := id hC
  have hts := hB.1.1.at args
  refine lv_goto (tgt := 1465) hx hb (xb_d D_Law_law 146 rfl) rfl ?_
  exact am_Law_law_L1465 l hfl D A σ L xs MC MS h0 Qr K23 hK23 x0 x1 x2 x3 x4 h bc bs hw p e s m args below meth c hC hX9 H locs ls k n hE (lv_sub hl [0, 1, 2, 3, 4] rfl) hR hS (by omega) (by omega)

set_option maxHeartbeats 4000000 in
set_option maxRecDepth 100000 in
theorem am_Law_law_L261 (l : Launch) (hfl : l.flags = pinnedFlags ++ [noTraceFlag]) (D : va_G) (A : Nat → Prop) (σ L : Nat) (xs : Nat → Int32) (MC MS : Nat) (h0 : xb_H) (Qr : Int32 → xb_H → Nat → Nat → Prop) (K23 : Nat → Nat → Nat → Nat → Int32 → xb_H → Nat → Nat → Prop) (hK23 : ∀ (x0 : Nat) (x1 : Nat) (x2 : Nat) (x3 : Nat) (x4 : Int32) (h : xb_H) (bc : Nat) (bs : Nat), K23 x0 x1 x2 x3 x4 h bc bs → xb_am2 x0 L xs l D A σ 15 MC MS h0 (fun v h bc bs => ∃ r, v = some (.int r) ∧ Qr r h bc bs) (fun _ _ _ _ => False) y_Law_law.cls y_Law_law.name b_Law_law 8 ([] : List ExceptionTableEntry) (some .boolean) 23 [(0, .ref x0), (1, .ref x1), (2, .ref x2), (3, .ref x3), (4, .int x4)] [] h bc bs) (x0 : Nat) (x1 : Nat) (x2 : Nat) (x3 : Nat) (x4 : Int32) (h : xb_H) (bc : Nat) (bs : Nat) (hw : w2_Law_law_L261 σ L xs K23 Qr x0 x1 x2 x3 x4 h bc bs) : xb_am2 x0 L xs l D A σ 15 MC MS h0 (fun v h bc bs => ∃ r, v = some (.int r) ∧ Qr r h bc bs) (fun _ _ _ _ => False) y_Law_law.cls y_Law_law.name b_Law_law 8 ([] : List ExceptionTableEntry) (some .boolean) 261 [(0, .ref x0), (1, .ref x1), (2, .ref x2), (3, .ref x3), (4, .int x4)] [] h bc bs := by
  unfold w2_Law_law_L261 at hw
  intro p e s m args below meth c hC hX9 H locs ls k n hE hl hR hS hk hn
  obtain ⟨hX, hbl, hbA⟩ := id hX9
  obtain ⟨hx, hb, hown, hlocks, htab, hml, hr, hB, hA, hnm⟩ := id hC
  have hts := hB.1.1.at args
  refine lv_goto (tgt := 1465) hx hb (xb_d D_Law_law 99 rfl) rfl ?_
  exact am_Law_law_L1465 l hfl D A σ L xs MC MS h0 Qr K23 hK23 x0 x1 x2 x3 x4 h bc bs hw p e s m args below meth c hC hX9 H locs ls k n hE (lv_sub hl [0, 1, 2, 3, 4] rfl) hR hS (by omega) (by omega)

set_option maxHeartbeats 4000000 in
set_option maxRecDepth 100000 in
theorem am_Law_law_L23 (l : Launch) (hfl : l.flags = pinnedFlags ++ [noTraceFlag]) (D : va_G) (A : Nat → Prop) (σ L : Nat) (xs : Nat → Int32) (MC MS : Nat) (h0 : xb_H) (Qr : Int32 → xb_H → Nat → Nat → Prop) (n9 : Nat) : ∀ (x0 : Nat) (x1 : Nat) (x2 : Nat) (x3 : Nat) (x4 : Int32) (h : xb_H) (bc : Nat) (bs : Nat), w2_Law_law_L23 σ L xs Qr n9 x0 x1 x2 x3 x4 h bc bs → xb_am2 x0 L xs l D A σ 15 MC MS h0 (fun v h bc bs => ∃ r, v = some (.int r) ∧ Qr r h bc bs) (fun _ _ _ _ => False) y_Law_law.cls y_Law_law.name b_Law_law 8 ([] : List ExceptionTableEntry) (some .boolean) 23 [(0, .ref x0), (1, .ref x1), (2, .ref x2), (3, .ref x3), (4, .int x4)] [] h bc bs := by
  induction n9 with
  | zero => intro x0 x1 x2 x3 x4 h bc bs hw; exact False.elim hw
  | succ n9 ih =>
    intro x0 x1 x2 x3 x4 h bc bs hw
    unfold w2_Law_law_L23 at hw
    intro p e s m args below meth c hC hX9 H locs ls k n hE hl hR hS hk hn
    obtain ⟨hX, hbl, hbA⟩ := id hX9
    obtain ⟨hx, hb, hown, hlocks, htab, hml, hr, hB, hA, hnm⟩ := id hC
    have hts := hB.1.1.at args
    refine lv_iload hx hb (xb_d D_Law_law 13 rfl) (lv_at hl 4 rfl) ?_
    refine lv_aload_n hx hb (xb_d D_Law_law 14 rfl) rfl (lv_at hl 0 rfl) ?_
    refine va_slen hx hb hX hbl hbA hS (xb_d D_Law_law 15 rfl) ?_
    refine lv_bipush (v := 6) hx hb (xb_d D_Law_law 16 rfl) (by decide) ?_
    refine lv_isub hx hb (xb_d D_Law_law 17 rfl) ?_
    refine lv_icmp_gt (tgt := 1471) hx hb (xb_d D_Law_law 18 rfl) rfl (fun hc2 => ?_) (fun hc2 => ?_)
    · have hw := hw.1 hc2
      refine lv_iconst (v := 1) hx hb (xb_d D_Law_law 870 rfl) (by decide) ?_
      exact xb_zret bc bs hx hb hr hlocks (show k + bc ≤ MC by omega) (show n + bs ≤ MS by omega) (by decide) hE hR hS (xb_d D_Law_law 871 rfl) hw
    · have hw := hw.2 hc2
      refine lv_aload_n hx hb (xb_d D_Law_law 19 rfl) rfl (lv_at hl 0 rfl) ?_
      refine lv_iload hx hb (xb_d D_Law_law 20 rfl) (lv_at hl 4 rfl) ?_
      obtain ⟨hi3, hw⟩ := hw
      refine va_sld hx hb hX hbl hbA hS hi3 (xb_d D_Law_law 21 rfl) ?_
      refine lv_bipush (v := 31) hx hb (xb_d D_Law_law 22 rfl) (by decide) ?_
      refine lv_iand hx hb (xb_d D_Law_law 23 rfl) ?_
      by_cases hc4 : ((xs (Int32.toNatClampNeg x4)) &&& 31) = 0
      · have hw := hw.1 hc4
        refine xt_numi hc4 ?_
        refine lv_tableIn (off := 120) (tgt := 160) hx hb (xb_d D_Law_law 24 rfl) (by decide +kernel) (by decide +kernel) (by decide +kernel) (by decide) ?_
        refine lv_aload_n hx hb (xb_d D_Law_law 25 rfl) rfl (lv_at hl 1 rfl) ?_
        refine lv_aload_n hx hb (xb_d D_Law_law 26 rfl) rfl (lv_at hl 0 rfl) ?_
        refine lv_iload hx hb (xb_d D_Law_law 27 rfl) (lv_at hl 4 rfl) ?_
        refine lv_iconst (v := 1) hx hb (xb_d D_Law_law 28 rfl) (by decide) ?_
        refine lv_iadd hx hb (xb_d D_Law_law 29 rfl) ?_
        obtain ⟨hi5, hw⟩ := hw
        refine va_sld hx hb hX hbl hbA hS hi5 (xb_d D_Law_law 30 rfl) ?_
        refine lv_aload_n hx hb (xb_d D_Law_law 31 rfl) rfl (lv_at hl 0 rfl) ?_
        refine lv_iload hx hb (xb_d D_Law_law 32 rfl) (lv_at hl 4 rfl) ?_
        refine lv_iconst (v := 2) hx hb (xb_d D_Law_law 33 rfl) (by decide) ?_
        refine lv_iadd hx hb (xb_d D_Law_law 34 rfl) ?_
        obtain ⟨hi6, hw⟩ := hw
        refine va_sld hx hb hX hbl hbA hS hi6 (xb_d D_Law_law 35 rfl) ?_
        refine lv_aload_n hx hb (xb_d D_Law_law 36 rfl) rfl (lv_at hl 0 rfl) ?_
        refine lv_iload hx hb (xb_d D_Law_law 37 rfl) (lv_at hl 4 rfl) ?_
        refine lv_iconst (v := 3) hx hb (xb_d D_Law_law 38 rfl) (by decide) ?_
        refine lv_iadd hx hb (xb_d D_Law_law 39 rfl) ?_
        obtain ⟨hi7, hw⟩ := hw
        refine va_sld hx hb hX hbl hbA hS hi7 (xb_d D_Law_law 40 rfl) ?_
        refine lv_aload_n hx hb (xb_d D_Law_law 41 rfl) rfl (lv_at hl 0 rfl) ?_
        refine lv_iload hx hb (xb_d D_Law_law 42 rfl) (lv_at hl 4 rfl) ?_
        refine lv_iconst (v := 4) hx hb (xb_d D_Law_law 43 rfl) (by decide) ?_
        refine lv_iadd hx hb (xb_d D_Law_law 44 rfl) ?_
        obtain ⟨hi8, hw⟩ := hw
        refine va_sld hx hb hX hbl hbA hS hi8 (xb_d D_Law_law 45 rfl) ?_
        refine lv_aload_n hx hb (xb_d D_Law_law 46 rfl) rfl (lv_at hl 0 rfl) ?_
        refine lv_iload hx hb (xb_d D_Law_law 47 rfl) (lv_at hl 4 rfl) ?_
        refine lv_iconst (v := 5) hx hb (xb_d D_Law_law 48 rfl) (by decide) ?_
        refine lv_iadd hx hb (xb_d D_Law_law 49 rfl) ?_
        obtain ⟨hi9, hw⟩ := hw
        refine va_sld hx hb hX hbl hbA hS hi9 (xb_d D_Law_law 50 rfl) ?_
        refine lv_aload_n hx hb (xb_d D_Law_law 51 rfl) rfl (lv_at hl 3 rfl) ?_
        refine xb_call (D := D) (A := A) (σ := σ) (h := h) (d := 4) (mc := bc) (ms := bs) (maxL := 8) (rest := []) (av := [.ref x1, .int (xs (Int32.toNatClampNeg (x4 + 1))), .int (xs (Int32.toNatClampNeg (x4 + 2))), .int (xs (Int32.toNatClampNeg (x4 + 3))), .int (xs (Int32.toNatClampNeg (x4 + 4))), .int (xs (Int32.toNatClampNeg (x4 + 5))), .ref x3]) (fun T hT X => xt_invS X hx hown (hts _ m_a77a0f23) (hts _ m_4dc3b71a) (hts _ m_6445b362) (xt_sgSH (hts _ m_c82c7dba)).1 (xt_sgSH (hts _ m_c82c7dba)).2 nm_Law_feed (g := F0 m 192 ls [.ref x3, .int (xs (Int32.toNatClampNeg (x4 + 5))), .int (xs (Int32.toNatClampNeg (x4 + 4))), .int (xs (Int32.toNatClampNeg (x4 + 3))), .int (xs (Int32.toNatClampNeg (x4 + 2))), .int (xs (Int32.toNatClampNeg (x4 + 1))), .ref x1]) rfl (argsL := [.ref x1, .int (xs (Int32.toNatClampNeg (x4 + 1))), .int (xs (Int32.toNatClampNeg (x4 + 2))), .int (xs (Int32.toNatClampNeg (x4 + 3))), .int (xs (Int32.toNatClampNeg (x4 + 4))), .int (xs (Int32.toNatClampNeg (x4 + 5))), .ref x3]) (rest := []) rfl rfl (by rw [hb]; exact (xb_d D_Law_law 52 rfl))) (ok_Law_feed l hfl D A σ x1 (xs (Int32.toNatClampNeg (x4 + 1))) (xs (Int32.toNatClampNeg (x4 + 2))) (xs (Int32.toNatClampNeg (x4 + 3))) (xs (Int32.toNatClampNeg (x4 + 4))) (xs (Int32.toNatClampNeg (x4 + 5))) x3 h bc bs _ hw) (hml.trans hl.1.symm) (by rw [hb]; exact (xb_d D_Law_law 52 rfl)) (Nat.le_of_ble_eq_true rfl) (Nat.le_of_ble_eq_true rfl) (Nat.le_of_ble_eq_true rfl) (show k + bc ≤ MC by omega) (show n + bs ≤ MS by omega) (xt_w1 hB.1 m_c82c7dba) (xt_cdOfH hB.1 m_c82c7dba) (hts _ m_6445b362) hB hR hS hA (fun vv h10 bc11 bs11 kk11 nn11 H locs hk11 hn11 hq hEh10 hR hS => ?_) (fun XX ax h10 bc11 bs11 kk11 nn11 H locs hk11 hn11 hq hEh10 hex hR hS => ?_)
        · obtain ⟨r11, rfl, hw⟩ := hq
          have hw := hw hEh10
          have hE := hE.tr hEh10
          refine W.eq (g2 := F0 m 195 ls [.int r11]) rfl ?_
          refine lv_istore hx hb (xb_d D_Law_law 53 rfl) hl (by decide) rfl (fun ls hl => ?_)
          have hl : lv_has ls 8 [(5, .int r11), (0, .ref x0), (1, .ref x1), (2, .ref x2), (3, .ref x3), (4, .int x4)] := hl
          refine lv_aload_n hx hb (xb_d D_Law_law 54 rfl) rfl (lv_at hl 3 rfl) ?_
          refine lv_aload_n hx hb (xb_d D_Law_law 55 rfl) rfl (lv_at hl 1 rfl) ?_
          refine lv_iload hx hb (xb_d D_Law_law 56 rfl) (lv_at hl 5 rfl) ?_
          refine lv_iconst (v := 1) hx hb (xb_d D_Law_law 57 rfl) (by decide) ?_
          refine lv_iadd hx hb (xb_d D_Law_law 58 rfl) ?_
          obtain ⟨hi12, hw⟩ := hw
          refine va_sld hx hb hX hbl hbA hS hi12 (xb_d D_Law_law 59 rfl) ?_
          refine lv_aload_n hx hb (xb_d D_Law_law 60 rfl) rfl (lv_at hl 1 rfl) ?_
          refine lv_iload hx hb (xb_d D_Law_law 61 rfl) (lv_at hl 5 rfl) ?_
          refine lv_iconst (v := 2) hx hb (xb_d D_Law_law 62 rfl) (by decide) ?_
          refine lv_iadd hx hb (xb_d D_Law_law 63 rfl) ?_
          obtain ⟨hi13, hw⟩ := hw
          refine va_sld hx hb hX hbl hbA hS hi13 (xb_d D_Law_law 64 rfl) ?_
          refine lv_aload_n hx hb (xb_d D_Law_law 65 rfl) rfl (lv_at hl 1 rfl) ?_
          refine lv_iload hx hb (xb_d D_Law_law 66 rfl) (lv_at hl 5 rfl) ?_
          refine lv_iconst (v := 3) hx hb (xb_d D_Law_law 67 rfl) (by decide) ?_
          refine lv_iadd hx hb (xb_d D_Law_law 68 rfl) ?_
          obtain ⟨hi14, hw⟩ := hw
          refine va_sld hx hb hX hbl hbA hS hi14 (xb_d D_Law_law 69 rfl) ?_
          refine lv_aload_n hx hb (xb_d D_Law_law 70 rfl) rfl (lv_at hl 1 rfl) ?_
          refine lv_iload hx hb (xb_d D_Law_law 71 rfl) (lv_at hl 5 rfl) ?_
          refine lv_iconst (v := 4) hx hb (xb_d D_Law_law 72 rfl) (by decide) ?_
          refine lv_iadd hx hb (xb_d D_Law_law 73 rfl) ?_
          obtain ⟨hi15, hw⟩ := hw
          refine va_sld hx hb hX hbl hbA hS hi15 (xb_d D_Law_law 74 rfl) ?_
          refine lv_aload_n hx hb (xb_d D_Law_law 75 rfl) rfl (lv_at hl 1 rfl) ?_
          refine lv_iload hx hb (xb_d D_Law_law 76 rfl) (lv_at hl 5 rfl) ?_
          refine lv_iconst (v := 5) hx hb (xb_d D_Law_law 77 rfl) (by decide) ?_
          refine lv_iadd hx hb (xb_d D_Law_law 78 rfl) ?_
          obtain ⟨hi16, hw⟩ := hw
          refine va_sld hx hb hX hbl hbA hS hi16 (xb_d D_Law_law 79 rfl) ?_
          obtain ⟨hk17, hw⟩ := hw
          refine xb_call0 (D := D) (A := A) (σ := σ) (h := h10) (d := 2) (maxL := 8) (rest := []) (av := [.ref x2, .int (xs (Int32.toNatClampNeg (x4 + 1))), .int (xs (Int32.toNatClampNeg (x4 + 2))), .int (xs (Int32.toNatClampNeg (x4 + 3))), .int (xs (Int32.toNatClampNeg (x4 + 4))), .int (xs (Int32.toNatClampNeg (x4 + 5)))]) (fun T hT X => by obtain ⟨cb9, ra9, rb9, rc9⟩ := xb_recv (ci := 8) hR rfl hk17 (by decide); exact xt_invV X hx hown (hts _ m_bafdb021) (hts _ m_8d07489a) (hts _ m_3960b39a) (xt_sigOf (hts _ m_cf44efd5)) nm_M_feed (by rw [hT]; exact ra9) rb9 rc9 (g := F0 m 228 ls [.int (xs (Int32.toNatClampNeg (x4 + 5))), .int (xs (Int32.toNatClampNeg (x4 + 4))), .int (xs (Int32.toNatClampNeg (x4 + 3))), .int (xs (Int32.toNatClampNeg (x4 + 2))), .int (xs (Int32.toNatClampNeg (x4 + 1))), .ref x2]) rfl (argsL := [.int (xs (Int32.toNatClampNeg (x4 + 1))), .int (xs (Int32.toNatClampNeg (x4 + 2))), .int (xs (Int32.toNatClampNeg (x4 + 3))), .int (xs (Int32.toNatClampNeg (x4 + 4))), .int (xs (Int32.toNatClampNeg (x4 + 5)))]) (rest := []) rfl rfl (by rw [hb]; exact (xb_d D_Law_law 80 rfl))) (ok_M_feed l hfl D A σ x2 (xs (Int32.toNatClampNeg (x4 + 1))) (xs (Int32.toNatClampNeg (x4 + 2))) (xs (Int32.toNatClampNeg (x4 + 3))) (xs (Int32.toNatClampNeg (x4 + 4))) (xs (Int32.toNatClampNeg (x4 + 5))) h10 _ hw) (hml.trans hl.1.symm) (by rw [hb]; exact (xb_d D_Law_law 80 rfl)) (Nat.le_of_ble_eq_true rfl) (Nat.le_of_ble_eq_true rfl) (Nat.le_of_ble_eq_true rfl) (show (k + kk11) ≤ MC by omega) (show (n + nn11) ≤ MS by omega) (xt_w1 hB.1 m_cf44efd5) (xt_cdOf hB.1 m_cf44efd5) (hts _ m_d5ed7bed) hB hR hS hA (fun vv h18 H locs hq hEh18 hR hS => ?_)
          obtain ⟨r19, rfl, hw⟩ := hq
          have hw := hw hEh18
          have hE := hE.tr hEh18
          refine W.eq (g2 := F0 m 231 ls [.int r19]) rfl ?_
          refine lv_istore hx hb (xb_d D_Law_law 81 rfl) hl (by decide) rfl (fun ls hl => ?_)
          have hl : lv_has ls 8 [(6, .int r19), (5, .int r11), (0, .ref x0), (1, .ref x1), (2, .ref x2), (3, .ref x3), (4, .int x4)] := hl
          refine lv_aload_n hx hb (xb_d D_Law_law 82 rfl) rfl (lv_at hl 4 rfl) ?_
          have hk17 : xb_k h18 x2 = 9 := hEh18.k hk17
          refine xb_call0 (D := D) (A := A) (σ := σ) (h := h18) (d := 2) (maxL := 1) (rest := []) (av := [.ref x2]) (fun T hT X => by obtain ⟨cb9, ra9, rb9, rc9⟩ := xb_recv (ci := 8) hR rfl hk17 (by decide); exact xt_invV X hx hown (hts _ m_4e0e8e72) (hts _ m_e6bd7a2e) (hts _ m_a9e3d950) (xt_sigOf (hts _ m_6c6d2858)) nm_M_thrown (by rw [hT]; exact ra9) rb9 rc9 (g := F0 m 234 ls [.ref x2]) rfl (argsL := []) (rest := []) rfl rfl (by rw [hb]; exact (xb_d D_Law_law 83 rfl))) (ok_M_thrown l hfl D A σ x2 h18 _ hw) (hml.trans hl.1.symm) (by rw [hb]; exact (xb_d D_Law_law 83 rfl)) (Nat.le_of_ble_eq_true rfl) (Nat.le_of_ble_eq_true rfl) (Nat.le_of_ble_eq_true rfl) (show (k + kk11) ≤ MC by omega) (show (n + nn11) ≤ MS by omega) (xt_w1 hB.1 m_6c6d2858) (xt_cdOf hB.1 m_6c6d2858) (hts _ m_d5ed7bed) hB hR hS hA (fun vv h20 H locs hq hEh20 hR hS => ?_)
          obtain ⟨r21, rfl, hw⟩ := hq
          have hw := hw hEh20
          have hE := hE.tr hEh20
          refine W.eq (g2 := F0 m 237 ls [.int r21]) rfl ?_
          refine lv_iload hx hb (xb_d D_Law_law 84 rfl) (lv_at hl 1 rfl) ?_
          refine lv_icmp_eq (tgt := 244) hx hb (xb_d D_Law_law 85 rfl) rfl (fun hc22 => ?_) (fun hc22 => ?_)
          · have hw := hw.1 hc22
            refine lv_iload hx hb (xb_d D_Law_law 88 rfl) (lv_at hl 1 rfl) ?_
            refine lv_if_ne (tgt := 261) hx hb (xb_d D_Law_law 89 rfl) rfl (fun hc23 => ?_) (fun hc23 => ?_)
            · have hw := hw.1 hc23
              exact am_Law_law_L261 l hfl D A σ L xs MC MS h0 Qr (w2_Law_law_L23 σ L xs Qr n9) ih x0 x1 x2 x3 x4 h20 bc11 bs11 hw p e s m args below meth c hC hX9 H locs ls (k + kk11) (n + nn11) hE (lv_sub hl [2, 3, 4, 5, 6] rfl) hR hS (by omega) (by omega)
            · have hw := hw.2 hc23
              refine lv_aload_n hx hb (xb_d D_Law_law 90 rfl) rfl (lv_at hl 5 rfl) ?_
              refine lv_iconst (v := 0) hx hb (xb_d D_Law_law 91 rfl) (by decide) ?_
              obtain ⟨hk25, hw⟩ := hw
              obtain ⟨hi24, hw⟩ := hw
              refine xb_lald hx hb hR hk25 hi24 (xb_d D_Law_law 92 rfl) ?_
              refine xt_numl (y := (xb_l h20 x3 0)) (congrArg (xb_l h20 x3) (by decide : (0 : Int32).toNatClampNeg = 0)) ?_
              refine lv_iload hx hb (xb_d D_Law_law 93 rfl) (lv_at hl 0 rfl) ?_
              refine lv_i2l hx hb (xb_d D_Law_law 94 rfl) rfl ?_
              refine xb_lc_eq (tgt := 261) hx hb (xb_d D_Law_law 95 rfl) (xb_d D_Law_law 96 rfl) rfl (fun hc26 => ?_) (fun hc26 => ?_)
              · have hw := hw.1 hc26
                exact am_Law_law_L261 l hfl D A σ L xs MC MS h0 Qr (w2_Law_law_L23 σ L xs Qr n9) ih x0 x1 x2 x3 x4 h20 bc11 bs11 hw p e s m args below meth c hC hX9 H locs ls (k + kk11) (n + nn11) hE (lv_sub hl [2, 3, 4, 5, 6] rfl) hR hS (by omega) (by omega)
              · have hw := hw.2 hc26
                refine lv_iconst (v := 0) hx hb (xb_d D_Law_law 97 rfl) (by decide) ?_
                exact xb_zret bc11 bs11 hx hb hr hlocks (show (k + kk11) + bc11 ≤ MC by omega) (show (n + nn11) + bs11 ≤ MS by omega) (by decide) hE hR hS (xb_d D_Law_law 98 rfl) hw
          · have hw := hw.2 hc22
            refine lv_iconst (v := 0) hx hb (xb_d D_Law_law 86 rfl) (by decide) ?_
            exact xb_zret bc11 bs11 hx hb hr hlocks (show (k + kk11) + bc11 ≤ MC by omega) (show (n + nn11) + bs11 ≤ MS by omega) (by decide) hE hR hS (xb_d D_Law_law 87 rfl) hw
        · exact False.elim hq
      have hw := hw.2
      by_cases hc27 : ((xs (Int32.toNatClampNeg x4)) &&& 31) = 1
      · have hw := hw.1 hc27
        refine xt_numi hc27 ?_
        refine lv_tableIn (off := 224) (tgt := 264) hx hb (xb_d D_Law_law 24 rfl) (by decide +kernel) (by decide +kernel) (by decide +kernel) (by decide) ?_
        refine lv_aload_n hx hb (xb_d D_Law_law 100 rfl) rfl (lv_at hl 1 rfl) ?_
        refine lv_aload_n hx hb (xb_d D_Law_law 101 rfl) rfl (lv_at hl 0 rfl) ?_
        refine lv_iload hx hb (xb_d D_Law_law 102 rfl) (lv_at hl 4 rfl) ?_
        refine lv_iconst (v := 1) hx hb (xb_d D_Law_law 103 rfl) (by decide) ?_
        refine lv_iadd hx hb (xb_d D_Law_law 104 rfl) ?_
        obtain ⟨hi28, hw⟩ := hw
        refine va_sld hx hb hX hbl hbA hS hi28 (xb_d D_Law_law 105 rfl) ?_
        refine xb_call (D := D) (A := A) (σ := σ) (h := h) (d := 3) (mc := bc) (ms := bs) (maxL := 3) (rest := []) (av := [.ref x1, .int (xs (Int32.toNatClampNeg (x4 + 1)))]) (fun T hT X => xt_invS X hx hown (hts _ m_4150472c) (hts _ m_7b391b8e) (hts _ m_6445b362) (xt_sgSH (hts _ m_af196c6f)).1 (xt_sgSH (hts _ m_af196c6f)).2 nm_Law_end (g := F0 m 271 ls [.int (xs (Int32.toNatClampNeg (x4 + 1))), .ref x1]) rfl (argsL := [.ref x1, .int (xs (Int32.toNatClampNeg (x4 + 1)))]) (rest := []) rfl rfl (by rw [hb]; exact (xb_d D_Law_law 106 rfl))) (ok_Law_end l hfl D A σ x1 (xs (Int32.toNatClampNeg (x4 + 1))) h bc bs _ hw) (hml.trans hl.1.symm) (by rw [hb]; exact (xb_d D_Law_law 106 rfl)) (Nat.le_of_ble_eq_true rfl) (Nat.le_of_ble_eq_true rfl) (Nat.le_of_ble_eq_true rfl) (show k + bc ≤ MC by omega) (show n + bs ≤ MS by omega) (xt_w1 hB.1 m_af196c6f) (xt_cdOfH hB.1 m_af196c6f) (hts _ m_6445b362) hB hR hS hA (fun vv h29 bc30 bs30 kk30 nn30 H locs hk30 hn30 hq hEh29 hR hS => ?_) (fun XX ax h29 bc30 bs30 kk30 nn30 H locs hk30 hn30 hq hEh29 hex hR hS => ?_)
        · obtain ⟨r30, rfl, hw⟩ := hq
          have hw := hw hEh29
          have hE := hE.tr hEh29
          refine W.eq (g2 := F0 m 274 ls [.int r30]) rfl ?_
          refine lv_istore hx hb (xb_d D_Law_law 107 rfl) hl (by decide) rfl (fun ls hl => ?_)
          have hl : lv_has ls 8 [(5, .int r30), (0, .ref x0), (1, .ref x1), (2, .ref x2), (3, .ref x3), (4, .int x4)] := hl
          refine lv_aload_n hx hb (xb_d D_Law_law 108 rfl) rfl (lv_at hl 3 rfl) ?_
          refine lv_aload_n hx hb (xb_d D_Law_law 109 rfl) rfl (lv_at hl 1 rfl) ?_
          refine lv_iload hx hb (xb_d D_Law_law 110 rfl) (lv_at hl 5 rfl) ?_
          refine lv_iconst (v := 1) hx hb (xb_d D_Law_law 111 rfl) (by decide) ?_
          refine lv_iadd hx hb (xb_d D_Law_law 112 rfl) ?_
          obtain ⟨hi31, hw⟩ := hw
          refine va_sld hx hb hX hbl hbA hS hi31 (xb_d D_Law_law 113 rfl) ?_
          obtain ⟨hk32, hw⟩ := hw
          refine xb_call0 (D := D) (A := A) (σ := σ) (h := h29) (d := 2) (maxL := 2) (rest := []) (av := [.ref x2, .int (xs (Int32.toNatClampNeg (x4 + 1)))]) (fun T hT X => by obtain ⟨cb9, ra9, rb9, rc9⟩ := xb_recv (ci := 8) hR rfl hk32 (by decide); exact xt_invV X hx hown (hts _ m_bdac9582) (hts _ m_bbe3ba13) (hts _ m_54523609) (xt_sigOf (hts _ m_81e9ec36)) nm_M_end (by rw [hT]; exact ra9) rb9 rc9 (g := F0 m 283 ls [.int (xs (Int32.toNatClampNeg (x4 + 1))), .ref x2]) rfl (argsL := [.int (xs (Int32.toNatClampNeg (x4 + 1)))]) (rest := []) rfl rfl (by rw [hb]; exact (xb_d D_Law_law 114 rfl))) (ok_M_end l hfl D A σ x2 (xs (Int32.toNatClampNeg (x4 + 1))) h29 _ hw) (hml.trans hl.1.symm) (by rw [hb]; exact (xb_d D_Law_law 114 rfl)) (Nat.le_of_ble_eq_true rfl) (Nat.le_of_ble_eq_true rfl) (Nat.le_of_ble_eq_true rfl) (show (k + kk30) ≤ MC by omega) (show (n + nn30) ≤ MS by omega) (xt_w1 hB.1 m_81e9ec36) (xt_cdOf hB.1 m_81e9ec36) (hts _ m_d5ed7bed) hB hR hS hA (fun vv h33 H locs hq hEh33 hR hS => ?_)
          obtain ⟨rfl, hw⟩ := hq
          have hw := hw hEh33
          have hE := hE.tr hEh33
          refine W.eq (g2 := F0 m 286 ls []) rfl ?_
          refine lv_aload_n hx hb (xb_d D_Law_law 115 rfl) rfl (lv_at hl 3 rfl) ?_
          have hk32 : xb_k h33 x2 = 9 := hEh33.k hk32
          refine xb_call0 (D := D) (A := A) (σ := σ) (h := h33) (d := 2) (maxL := 1) (rest := []) (av := [.ref x2]) (fun T hT X => by obtain ⟨cb9, ra9, rb9, rc9⟩ := xb_recv (ci := 8) hR rfl hk32 (by decide); exact xt_invV X hx hown (hts _ m_4e0e8e72) (hts _ m_e6bd7a2e) (hts _ m_a9e3d950) (xt_sigOf (hts _ m_6c6d2858)) nm_M_thrown (by rw [hT]; exact ra9) rb9 rc9 (g := F0 m 287 ls [.ref x2]) rfl (argsL := []) (rest := []) rfl rfl (by rw [hb]; exact (xb_d D_Law_law 116 rfl))) (ok_M_thrown l hfl D A σ x2 h33 _ hw) (hml.trans hl.1.symm) (by rw [hb]; exact (xb_d D_Law_law 116 rfl)) (Nat.le_of_ble_eq_true rfl) (Nat.le_of_ble_eq_true rfl) (Nat.le_of_ble_eq_true rfl) (show (k + kk30) ≤ MC by omega) (show (n + nn30) ≤ MS by omega) (xt_w1 hB.1 m_6c6d2858) (xt_cdOf hB.1 m_6c6d2858) (hts _ m_d5ed7bed) hB hR hS hA (fun vv h35 H locs hq hEh35 hR hS => ?_)
          obtain ⟨r36, rfl, hw⟩ := hq
          have hw := hw hEh35
          have hE := hE.tr hEh35
          refine W.eq (g2 := F0 m 290 ls [.int r36]) rfl ?_
          refine lv_iload hx hb (xb_d D_Law_law 117 rfl) (lv_at hl 0 rfl) ?_
          refine lv_icmp_eq (tgt := 297) hx hb (xb_d D_Law_law 118 rfl) rfl (fun hc37 => ?_) (fun hc37 => ?_)
          · have hw := hw.1 hc37
            refine lv_goto (tgt := 1465) hx hb (xb_d D_Law_law 121 rfl) rfl ?_
            exact am_Law_law_L1465 l hfl D A σ L xs MC MS h0 Qr (w2_Law_law_L23 σ L xs Qr n9) ih x0 x1 x2 x3 x4 h35 bc30 bs30 hw p e s m args below meth c hC hX9 H locs ls (k + kk30) (n + nn30) hE (lv_sub hl [1, 2, 3, 4, 5] rfl) hR hS (by omega) (by omega)
          · have hw := hw.2 hc37
            refine lv_iconst (v := 0) hx hb (xb_d D_Law_law 119 rfl) (by decide) ?_
            exact xb_zret bc30 bs30 hx hb hr hlocks (show (k + kk30) + bc30 ≤ MC by omega) (show (n + nn30) + bs30 ≤ MS by omega) (by decide) hE hR hS (xb_d D_Law_law 120 rfl) hw
        · exact False.elim hq
      have hw := hw.2
      by_cases hc38 : ((xs (Int32.toNatClampNeg x4)) &&& 31) = 2
      · have hw := hw.1 hc38
        refine xt_numi hc38 ?_
        refine lv_tableIn (off := 260) (tgt := 300) hx hb (xb_d D_Law_law 24 rfl) (by decide +kernel) (by decide +kernel) (by decide +kernel) (by decide) ?_
        refine lv_aload_n hx hb (xb_d D_Law_law 122 rfl) rfl (lv_at hl 1 rfl) ?_
        refine lv_aload_n hx hb (xb_d D_Law_law 123 rfl) rfl (lv_at hl 3 rfl) ?_
        refine xb_call (D := D) (A := A) (σ := σ) (h := h) (d := 10) (mc := bc) (ms := bs) (maxL := 3) (rest := []) (av := [.ref x1, .ref x3]) (fun T hT X => xt_invS X hx hown (hts _ m_87ae3aec) (hts _ m_4dbb5827) (hts _ m_6445b362) (xt_sgSH (hts _ m_681560db)).1 (xt_sgSH (hts _ m_681560db)).2 nm_Law_load (g := F0 m 302 ls [.ref x3, .ref x1]) rfl (argsL := [.ref x1, .ref x3]) (rest := []) rfl rfl (by rw [hb]; exact (xb_d D_Law_law 124 rfl))) (ok_Law_load l hfl D A σ x1 x3 h bc bs _ hw) (hml.trans hl.1.symm) (by rw [hb]; exact (xb_d D_Law_law 124 rfl)) (Nat.le_of_ble_eq_true rfl) (Nat.le_of_ble_eq_true rfl) (Nat.le_of_ble_eq_true rfl) (show k + bc ≤ MC by omega) (show n + bs ≤ MS by omega) (xt_w1 hB.1 m_681560db) (xt_cdOfH hB.1 m_681560db) (hts _ m_6445b362) hB hR hS hA (fun vv h39 bc40 bs40 kk40 nn40 H locs hk40 hn40 hq hEh39 hR hS => ?_) (fun XX ax h39 bc40 bs40 kk40 nn40 H locs hk40 hn40 hq hEh39 hex hR hS => ?_)
        · obtain ⟨r40, rfl, hw⟩ := hq
          have hw := hw hEh39
          have hE := hE.tr hEh39
          refine W.eq (g2 := F0 m 305 ls [.int r40]) rfl ?_
          refine lv_istore hx hb (xb_d D_Law_law 125 rfl) hl (by decide) rfl (fun ls hl => ?_)
          have hl : lv_has ls 8 [(5, .int r40), (0, .ref x0), (1, .ref x1), (2, .ref x2), (3, .ref x3), (4, .int x4)] := hl
          refine lv_aload_n hx hb (xb_d D_Law_law 126 rfl) rfl (lv_at hl 3 rfl) ?_
          obtain ⟨hk41, hw⟩ := hw
          refine xb_call (D := D) (A := A) (σ := σ) (h := h39) (d := 14) (mc := bc40) (ms := bs40) (maxL := 5) (rest := []) (av := [.ref x2]) (fun T hT X => by obtain ⟨cb9, ra9, rb9, rc9⟩ := xb_recv (ci := 8) hR rfl hk41 (by decide); exact xt_invV X hx hown (hts _ m_6bd0efed) (hts _ m_4a74d1ef) (hts _ m_3ee01492) (xt_sigOf (hts _ m_ac53e310)) nm_M_load (by rw [hT]; exact ra9) rb9 rc9 (g := F0 m 308 ls [.ref x2]) rfl (argsL := []) (rest := []) rfl rfl (by rw [hb]; exact (xb_d D_Law_law 127 rfl))) (ok_M_load l hfl D A σ x2 h39 bc40 bs40 _ hw) (hml.trans hl.1.symm) (by rw [hb]; exact (xb_d D_Law_law 127 rfl)) (Nat.le_of_ble_eq_true rfl) (Nat.le_of_ble_eq_true rfl) (Nat.le_of_ble_eq_true rfl) (show (k + kk40) + bc40 ≤ MC by omega) (show (n + nn40) + bs40 ≤ MS by omega) (xt_w1 hB.1 m_ac53e310) (xt_cdOf hB.1 m_ac53e310) (hts _ m_d5ed7bed) hB hR hS hA (fun vv h42 bc43 bs43 kk43 nn43 H locs hk43 hn43 hq hEh42 hR hS => ?_) (fun XX ax h42 bc43 bs43 kk43 nn43 H locs hk43 hn43 hq hEh42 hex hR hS => ?_)
          · obtain ⟨r43, rfl, hw⟩ := hq
            have hw := hw hEh42
            have hE := hE.tr hEh42
            refine W.eq (g2 := F0 m 311 ls [.int r43]) rfl ?_
            refine lv_istore hx hb (xb_d D_Law_law 128 rfl) hl (by decide) rfl (fun ls hl => ?_)
            have hl : lv_has ls 8 [(6, .int r43), (5, .int r40), (0, .ref x0), (1, .ref x1), (2, .ref x2), (3, .ref x3), (4, .int x4)] := hl
            refine lv_aload_n hx hb (xb_d D_Law_law 129 rfl) rfl (lv_at hl 4 rfl) ?_
            have hk41 : xb_k h42 x2 = 9 := hEh42.k hk41
            refine xb_call0 (D := D) (A := A) (σ := σ) (h := h42) (d := 2) (maxL := 1) (rest := []) (av := [.ref x2]) (fun T hT X => by obtain ⟨cb9, ra9, rb9, rc9⟩ := xb_recv (ci := 8) hR rfl hk41 (by decide); exact xt_invV X hx hown (hts _ m_4e0e8e72) (hts _ m_e6bd7a2e) (hts _ m_a9e3d950) (xt_sigOf (hts _ m_6c6d2858)) nm_M_thrown (by rw [hT]; exact ra9) rb9 rc9 (g := F0 m 314 ls [.ref x2]) rfl (argsL := []) (rest := []) rfl rfl (by rw [hb]; exact (xb_d D_Law_law 130 rfl))) (ok_M_thrown l hfl D A σ x2 h42 _ hw) (hml.trans hl.1.symm) (by rw [hb]; exact (xb_d D_Law_law 130 rfl)) (Nat.le_of_ble_eq_true rfl) (Nat.le_of_ble_eq_true rfl) (Nat.le_of_ble_eq_true rfl) (show ((k + kk40) + kk43) ≤ MC by omega) (show ((n + nn40) + nn43) ≤ MS by omega) (xt_w1 hB.1 m_6c6d2858) (xt_cdOf hB.1 m_6c6d2858) (hts _ m_d5ed7bed) hB hR hS hA (fun vv h44 H locs hq hEh44 hR hS => ?_)
            obtain ⟨r45, rfl, hw⟩ := hq
            have hw := hw hEh44
            have hE := hE.tr hEh44
            refine W.eq (g2 := F0 m 317 ls [.int r45]) rfl ?_
            refine lv_iload hx hb (xb_d D_Law_law 131 rfl) (lv_at hl 1 rfl) ?_
            refine lv_icmp_eq (tgt := 324) hx hb (xb_d D_Law_law 132 rfl) rfl (fun hc46 => ?_) (fun hc46 => ?_)
            · have hw := hw.1 hc46
              refine lv_iload hx hb (xb_d D_Law_law 135 rfl) (lv_at hl 1 rfl) ?_
              refine lv_if_ne (tgt := 341) hx hb (xb_d D_Law_law 136 rfl) rfl (fun hc47 => ?_) (fun hc47 => ?_)
              · have hw := hw.1 hc47
                exact am_Law_law_L341 l hfl D A σ L xs MC MS h0 Qr (w2_Law_law_L23 σ L xs Qr n9) ih x0 x1 x2 x3 x4 h44 bc43 bs43 hw p e s m args below meth c hC hX9 H locs ls ((k + kk40) + kk43) ((n + nn40) + nn43) hE (lv_sub hl [2, 3, 4, 5, 6] rfl) hR hS (by omega) (by omega)
              · have hw := hw.2 hc47
                refine lv_aload_n hx hb (xb_d D_Law_law 137 rfl) rfl (lv_at hl 5 rfl) ?_
                refine lv_iconst (v := 0) hx hb (xb_d D_Law_law 138 rfl) (by decide) ?_
                obtain ⟨hk49, hw⟩ := hw
                obtain ⟨hi48, hw⟩ := hw
                refine xb_lald hx hb hR hk49 hi48 (xb_d D_Law_law 139 rfl) ?_
                refine xt_numl (y := (xb_l h44 x3 0)) (congrArg (xb_l h44 x3) (by decide : (0 : Int32).toNatClampNeg = 0)) ?_
                refine lv_iload hx hb (xb_d D_Law_law 140 rfl) (lv_at hl 0 rfl) ?_
                refine lv_i2l hx hb (xb_d D_Law_law 141 rfl) rfl ?_
                refine xb_lc_eq (tgt := 341) hx hb (xb_d D_Law_law 142 rfl) (xb_d D_Law_law 143 rfl) rfl (fun hc50 => ?_) (fun hc50 => ?_)
                · have hw := hw.1 hc50
                  exact am_Law_law_L341 l hfl D A σ L xs MC MS h0 Qr (w2_Law_law_L23 σ L xs Qr n9) ih x0 x1 x2 x3 x4 h44 bc43 bs43 hw p e s m args below meth c hC hX9 H locs ls ((k + kk40) + kk43) ((n + nn40) + nn43) hE (lv_sub hl [2, 3, 4, 5, 6] rfl) hR hS (by omega) (by omega)
                · have hw := hw.2 hc50
                  refine lv_iconst (v := 0) hx hb (xb_d D_Law_law 144 rfl) (by decide) ?_
                  exact xb_zret bc43 bs43 hx hb hr hlocks (show ((k + kk40) + kk43) + bc43 ≤ MC by omega) (show ((n + nn40) + nn43) + bs43 ≤ MS by omega) (by decide) hE hR hS (xb_d D_Law_law 145 rfl) hw
            · have hw := hw.2 hc46
              refine lv_iconst (v := 0) hx hb (xb_d D_Law_law 133 rfl) (by decide) ?_
              exact xb_zret bc43 bs43 hx hb hr hlocks (show ((k + kk40) + kk43) + bc43 ≤ MC by omega) (show ((n + nn40) + nn43) + bs43 ≤ MS by omega) (by decide) hE hR hS (xb_d D_Law_law 134 rfl) hw
          · exact False.elim hq
        · exact False.elim hq
      have hw := hw.2
      by_cases hc51 : ((xs (Int32.toNatClampNeg x4)) &&& 31) = 3
      · have hw := hw.1 hc51
        refine xt_numi hc51 ?_
        refine lv_tableIn (off := 304) (tgt := 344) hx hb (xb_d D_Law_law 24 rfl) (by decide +kernel) (by decide +kernel) (by decide +kernel) (by decide) ?_
        refine lv_aload_n hx hb (xb_d D_Law_law 147 rfl) rfl (lv_at hl 1 rfl) ?_
        refine lv_aload_n hx hb (xb_d D_Law_law 148 rfl) rfl (lv_at hl 0 rfl) ?_
        refine lv_iload hx hb (xb_d D_Law_law 149 rfl) (lv_at hl 4 rfl) ?_
        refine lv_iconst (v := 1) hx hb (xb_d D_Law_law 150 rfl) (by decide) ?_
        refine lv_iadd hx hb (xb_d D_Law_law 151 rfl) ?_
        obtain ⟨hi52, hw⟩ := hw
        refine va_sld hx hb hX hbl hbA hS hi52 (xb_d D_Law_law 152 rfl) ?_
        refine lv_aload_n hx hb (xb_d D_Law_law 153 rfl) rfl (lv_at hl 3 rfl) ?_
        refine xb_call (D := D) (A := A) (σ := σ) (h := h) (d := 3) (mc := bc) (ms := bs) (maxL := 4) (rest := []) (av := [.ref x1, .int (xs (Int32.toNatClampNeg (x4 + 1))), .ref x3]) (fun T hT X => xt_invS X hx hown (hts _ m_667c8236) (hts _ m_2a1b593e) (hts _ m_6445b362) (xt_sgSH (hts _ m_b9ddf195)).1 (xt_sgSH (hts _ m_b9ddf195)).2 nm_Law_fault (g := F0 m 352 ls [.ref x3, .int (xs (Int32.toNatClampNeg (x4 + 1))), .ref x1]) rfl (argsL := [.ref x1, .int (xs (Int32.toNatClampNeg (x4 + 1))), .ref x3]) (rest := []) rfl rfl (by rw [hb]; exact (xb_d D_Law_law 154 rfl))) (ok_Law_fault l hfl D A σ x1 (xs (Int32.toNatClampNeg (x4 + 1))) x3 h bc bs _ hw) (hml.trans hl.1.symm) (by rw [hb]; exact (xb_d D_Law_law 154 rfl)) (Nat.le_of_ble_eq_true rfl) (Nat.le_of_ble_eq_true rfl) (Nat.le_of_ble_eq_true rfl) (show k + bc ≤ MC by omega) (show n + bs ≤ MS by omega) (xt_w1 hB.1 m_b9ddf195) (xt_cdOfH hB.1 m_b9ddf195) (hts _ m_6445b362) hB hR hS hA (fun vv h53 bc54 bs54 kk54 nn54 H locs hk54 hn54 hq hEh53 hR hS => ?_) (fun XX ax h53 bc54 bs54 kk54 nn54 H locs hk54 hn54 hq hEh53 hex hR hS => ?_)
        · obtain ⟨r54, rfl, hw⟩ := hq
          have hw := hw hEh53
          have hE := hE.tr hEh53
          refine W.eq (g2 := F0 m 355 ls [.int r54]) rfl ?_
          refine lv_istore hx hb (xb_d D_Law_law 155 rfl) hl (by decide) rfl (fun ls hl => ?_)
          have hl : lv_has ls 8 [(5, .int r54), (0, .ref x0), (1, .ref x1), (2, .ref x2), (3, .ref x3), (4, .int x4)] := hl
          refine lv_aload_n hx hb (xb_d D_Law_law 156 rfl) rfl (lv_at hl 3 rfl) ?_
          refine lv_aload_n hx hb (xb_d D_Law_law 157 rfl) rfl (lv_at hl 1 rfl) ?_
          refine lv_iload hx hb (xb_d D_Law_law 158 rfl) (lv_at hl 5 rfl) ?_
          refine lv_iconst (v := 1) hx hb (xb_d D_Law_law 159 rfl) (by decide) ?_
          refine lv_iadd hx hb (xb_d D_Law_law 160 rfl) ?_
          obtain ⟨hi55, hw⟩ := hw
          refine va_sld hx hb hX hbl hbA hS hi55 (xb_d D_Law_law 161 rfl) ?_
          obtain ⟨hk56, hw⟩ := hw
          refine xb_call0 (D := D) (A := A) (σ := σ) (h := h53) (d := 2) (maxL := 2) (rest := []) (av := [.ref x2, .int (xs (Int32.toNatClampNeg (x4 + 1)))]) (fun T hT X => by obtain ⟨cb9, ra9, rb9, rc9⟩ := xb_recv (ci := 8) hR rfl hk56 (by decide); exact xt_invV X hx hown (hts _ m_61d133ec) (hts _ m_5ef48346) (hts _ m_0f8af277) (xt_sigOf (hts _ m_3417788a)) nm_M_fault (by rw [hT]; exact ra9) rb9 rc9 (g := F0 m 364 ls [.int (xs (Int32.toNatClampNeg (x4 + 1))), .ref x2]) rfl (argsL := [.int (xs (Int32.toNatClampNeg (x4 + 1)))]) (rest := []) rfl rfl (by rw [hb]; exact (xb_d D_Law_law 162 rfl))) (ok_M_fault l hfl D A σ x2 (xs (Int32.toNatClampNeg (x4 + 1))) h53 _ hw) (hml.trans hl.1.symm) (by rw [hb]; exact (xb_d D_Law_law 162 rfl)) (Nat.le_of_ble_eq_true rfl) (Nat.le_of_ble_eq_true rfl) (Nat.le_of_ble_eq_true rfl) (show (k + kk54) ≤ MC by omega) (show (n + nn54) ≤ MS by omega) (xt_w1 hB.1 m_3417788a) (xt_cdOf hB.1 m_3417788a) (hts _ m_d5ed7bed) hB hR hS hA (fun vv h57 H locs hq hEh57 hR hS => ?_)
          obtain ⟨r58, rfl, hw⟩ := hq
          have hw := hw hEh57
          have hE := hE.tr hEh57
          refine W.eq (g2 := F0 m 367 ls [.int r58]) rfl ?_
          refine lv_istore hx hb (xb_d D_Law_law 163 rfl) hl (by decide) rfl (fun ls hl => ?_)
          have hl : lv_has ls 8 [(6, .int r58), (5, .int r54), (0, .ref x0), (1, .ref x1), (2, .ref x2), (3, .ref x3), (4, .int x4)] := hl
          refine lv_aload_n hx hb (xb_d D_Law_law 164 rfl) rfl (lv_at hl 4 rfl) ?_
          have hk56 : xb_k h57 x2 = 9 := hEh57.k hk56
          refine xb_call0 (D := D) (A := A) (σ := σ) (h := h57) (d := 2) (maxL := 1) (rest := []) (av := [.ref x2]) (fun T hT X => by obtain ⟨cb9, ra9, rb9, rc9⟩ := xb_recv (ci := 8) hR rfl hk56 (by decide); exact xt_invV X hx hown (hts _ m_4e0e8e72) (hts _ m_e6bd7a2e) (hts _ m_a9e3d950) (xt_sigOf (hts _ m_6c6d2858)) nm_M_thrown (by rw [hT]; exact ra9) rb9 rc9 (g := F0 m 370 ls [.ref x2]) rfl (argsL := []) (rest := []) rfl rfl (by rw [hb]; exact (xb_d D_Law_law 165 rfl))) (ok_M_thrown l hfl D A σ x2 h57 _ hw) (hml.trans hl.1.symm) (by rw [hb]; exact (xb_d D_Law_law 165 rfl)) (Nat.le_of_ble_eq_true rfl) (Nat.le_of_ble_eq_true rfl) (Nat.le_of_ble_eq_true rfl) (show (k + kk54) ≤ MC by omega) (show (n + nn54) ≤ MS by omega) (xt_w1 hB.1 m_6c6d2858) (xt_cdOf hB.1 m_6c6d2858) (hts _ m_d5ed7bed) hB hR hS hA (fun vv h59 H locs hq hEh59 hR hS => ?_)
          obtain ⟨r60, rfl, hw⟩ := hq
          have hw := hw hEh59
          have hE := hE.tr hEh59
          refine W.eq (g2 := F0 m 373 ls [.int r60]) rfl ?_
          refine lv_iload hx hb (xb_d D_Law_law 166 rfl) (lv_at hl 1 rfl) ?_
          refine lv_icmp_eq (tgt := 380) hx hb (xb_d D_Law_law 167 rfl) rfl (fun hc61 => ?_) (fun hc61 => ?_)
          · have hw := hw.1 hc61
            refine lv_iload hx hb (xb_d D_Law_law 170 rfl) (lv_at hl 1 rfl) ?_
            refine lv_if_ne (tgt := 397) hx hb (xb_d D_Law_law 171 rfl) rfl (fun hc62 => ?_) (fun hc62 => ?_)
            · have hw := hw.1 hc62
              exact am_Law_law_L397 l hfl D A σ L xs MC MS h0 Qr (w2_Law_law_L23 σ L xs Qr n9) ih x0 x1 x2 x3 x4 h59 bc54 bs54 hw p e s m args below meth c hC hX9 H locs ls (k + kk54) (n + nn54) hE (lv_sub hl [2, 3, 4, 5, 6] rfl) hR hS (by omega) (by omega)
            · have hw := hw.2 hc62
              refine lv_aload_n hx hb (xb_d D_Law_law 172 rfl) rfl (lv_at hl 5 rfl) ?_
              refine lv_iconst (v := 0) hx hb (xb_d D_Law_law 173 rfl) (by decide) ?_
              obtain ⟨hk64, hw⟩ := hw
              obtain ⟨hi63, hw⟩ := hw
              refine xb_lald hx hb hR hk64 hi63 (xb_d D_Law_law 174 rfl) ?_
              refine xt_numl (y := (xb_l h59 x3 0)) (congrArg (xb_l h59 x3) (by decide : (0 : Int32).toNatClampNeg = 0)) ?_
              refine lv_iload hx hb (xb_d D_Law_law 175 rfl) (lv_at hl 0 rfl) ?_
              refine lv_i2l hx hb (xb_d D_Law_law 176 rfl) rfl ?_
              refine xb_lc_eq (tgt := 397) hx hb (xb_d D_Law_law 177 rfl) (xb_d D_Law_law 178 rfl) rfl (fun hc65 => ?_) (fun hc65 => ?_)
              · have hw := hw.1 hc65
                exact am_Law_law_L397 l hfl D A σ L xs MC MS h0 Qr (w2_Law_law_L23 σ L xs Qr n9) ih x0 x1 x2 x3 x4 h59 bc54 bs54 hw p e s m args below meth c hC hX9 H locs ls (k + kk54) (n + nn54) hE (lv_sub hl [2, 3, 4, 5, 6] rfl) hR hS (by omega) (by omega)
              · have hw := hw.2 hc65
                refine lv_iconst (v := 0) hx hb (xb_d D_Law_law 179 rfl) (by decide) ?_
                exact xb_zret bc54 bs54 hx hb hr hlocks (show (k + kk54) + bc54 ≤ MC by omega) (show (n + nn54) + bs54 ≤ MS by omega) (by decide) hE hR hS (xb_d D_Law_law 180 rfl) hw
          · have hw := hw.2 hc61
            refine lv_iconst (v := 0) hx hb (xb_d D_Law_law 168 rfl) (by decide) ?_
            exact xb_zret bc54 bs54 hx hb hr hlocks (show (k + kk54) + bc54 ≤ MC by omega) (show (n + nn54) + bs54 ≤ MS by omega) (by decide) hE hR hS (xb_d D_Law_law 169 rfl) hw
        · exact False.elim hq
      have hw := hw.2
      by_cases hc66 : ((xs (Int32.toNatClampNeg x4)) &&& 31) = 4
      · have hw := hw.1 hc66
        refine xt_numi hc66 ?_
        refine lv_tableIn (off := 360) (tgt := 400) hx hb (xb_d D_Law_law 24 rfl) (by decide +kernel) (by decide +kernel) (by decide +kernel) (by decide) ?_
        refine lv_aload_n hx hb (xb_d D_Law_law 182 rfl) rfl (lv_at hl 1 rfl) ?_
        refine lv_aload_n hx hb (xb_d D_Law_law 183 rfl) rfl (lv_at hl 0 rfl) ?_
        refine lv_iload hx hb (xb_d D_Law_law 184 rfl) (lv_at hl 4 rfl) ?_
        refine lv_iconst (v := 1) hx hb (xb_d D_Law_law 185 rfl) (by decide) ?_
        refine lv_iadd hx hb (xb_d D_Law_law 186 rfl) ?_
        obtain ⟨hi67, hw⟩ := hw
        refine va_sld hx hb hX hbl hbA hS hi67 (xb_d D_Law_law 187 rfl) ?_
        refine lv_aload_n hx hb (xb_d D_Law_law 188 rfl) rfl (lv_at hl 0 rfl) ?_
        refine lv_iload hx hb (xb_d D_Law_law 189 rfl) (lv_at hl 4 rfl) ?_
        refine lv_iconst (v := 2) hx hb (xb_d D_Law_law 190 rfl) (by decide) ?_
        refine lv_iadd hx hb (xb_d D_Law_law 191 rfl) ?_
        obtain ⟨hi68, hw⟩ := hw
        refine va_sld hx hb hX hbl hbA hS hi68 (xb_d D_Law_law 192 rfl) ?_
        refine lv_aload_n hx hb (xb_d D_Law_law 193 rfl) rfl (lv_at hl 3 rfl) ?_
        refine xb_call (D := D) (A := A) (σ := σ) (h := h) (d := 4) (mc := bc) (ms := bs) (maxL := 5) (rest := []) (av := [.ref x1, .int (xs (Int32.toNatClampNeg (x4 + 1))), .int (xs (Int32.toNatClampNeg (x4 + 2))), .ref x3]) (fun T hT X => xt_invS X hx hown (hts _ m_9d546c32) (hts _ m_ed220d35) (hts _ m_6445b362) (xt_sgSH (hts _ m_8b6a1906)).1 (xt_sgSH (hts _ m_8b6a1906)).2 nm_Law_module (g := F0 m 414 ls [.ref x3, .int (xs (Int32.toNatClampNeg (x4 + 2))), .int (xs (Int32.toNatClampNeg (x4 + 1))), .ref x1]) rfl (argsL := [.ref x1, .int (xs (Int32.toNatClampNeg (x4 + 1))), .int (xs (Int32.toNatClampNeg (x4 + 2))), .ref x3]) (rest := []) rfl rfl (by rw [hb]; exact (xb_d D_Law_law 194 rfl))) (ok_Law_module l hfl D A σ x1 (xs (Int32.toNatClampNeg (x4 + 1))) (xs (Int32.toNatClampNeg (x4 + 2))) x3 h bc bs _ hw) (hml.trans hl.1.symm) (by rw [hb]; exact (xb_d D_Law_law 194 rfl)) (Nat.le_of_ble_eq_true rfl) (Nat.le_of_ble_eq_true rfl) (Nat.le_of_ble_eq_true rfl) (show k + bc ≤ MC by omega) (show n + bs ≤ MS by omega) (xt_w1 hB.1 m_8b6a1906) (xt_cdOfH hB.1 m_8b6a1906) (hts _ m_6445b362) hB hR hS hA (fun vv h69 bc70 bs70 kk70 nn70 H locs hk70 hn70 hq hEh69 hR hS => ?_) (fun XX ax h69 bc70 bs70 kk70 nn70 H locs hk70 hn70 hq hEh69 hex hR hS => ?_)
        · obtain ⟨r70, rfl, hw⟩ := hq
          have hw := hw hEh69
          have hE := hE.tr hEh69
          refine W.eq (g2 := F0 m 417 ls [.int r70]) rfl ?_
          refine lv_istore hx hb (xb_d D_Law_law 195 rfl) hl (by decide) rfl (fun ls hl => ?_)
          have hl : lv_has ls 8 [(5, .int r70), (0, .ref x0), (1, .ref x1), (2, .ref x2), (3, .ref x3), (4, .int x4)] := hl
          refine lv_aload_n hx hb (xb_d D_Law_law 196 rfl) rfl (lv_at hl 3 rfl) ?_
          refine lv_aload_n hx hb (xb_d D_Law_law 197 rfl) rfl (lv_at hl 1 rfl) ?_
          refine lv_iload hx hb (xb_d D_Law_law 198 rfl) (lv_at hl 5 rfl) ?_
          refine lv_iconst (v := 1) hx hb (xb_d D_Law_law 199 rfl) (by decide) ?_
          refine lv_iadd hx hb (xb_d D_Law_law 200 rfl) ?_
          obtain ⟨hi71, hw⟩ := hw
          refine va_sld hx hb hX hbl hbA hS hi71 (xb_d D_Law_law 201 rfl) ?_
          refine lv_aload_n hx hb (xb_d D_Law_law 202 rfl) rfl (lv_at hl 1 rfl) ?_
          refine lv_iload hx hb (xb_d D_Law_law 203 rfl) (lv_at hl 5 rfl) ?_
          refine lv_iconst (v := 2) hx hb (xb_d D_Law_law 204 rfl) (by decide) ?_
          refine lv_iadd hx hb (xb_d D_Law_law 205 rfl) ?_
          obtain ⟨hi72, hw⟩ := hw
          refine va_sld hx hb hX hbl hbA hS hi72 (xb_d D_Law_law 206 rfl) ?_
          obtain ⟨hk73, hw⟩ := hw
          refine xb_call0 (D := D) (A := A) (σ := σ) (h := h69) (d := 4) (maxL := 3) (rest := []) (av := [.ref x2, .int (xs (Int32.toNatClampNeg (x4 + 1))), .int (xs (Int32.toNatClampNeg (x4 + 2)))]) (fun T hT X => by obtain ⟨cb9, ra9, rb9, rc9⟩ := xb_recv (ci := 8) hR rfl hk73 (by decide); exact xt_invV X hx hown (hts _ m_7a75299b) (hts _ m_9b45ccfe) (hts _ m_28cdfd27) (xt_sigOf (hts _ m_4727a86b)) nm_M_module (by rw [hT]; exact ra9) rb9 rc9 (g := F0 m 432 ls [.int (xs (Int32.toNatClampNeg (x4 + 2))), .int (xs (Int32.toNatClampNeg (x4 + 1))), .ref x2]) rfl (argsL := [.int (xs (Int32.toNatClampNeg (x4 + 1))), .int (xs (Int32.toNatClampNeg (x4 + 2)))]) (rest := []) rfl rfl (by rw [hb]; exact (xb_d D_Law_law 207 rfl))) (ok_M_module l hfl D A σ x2 (xs (Int32.toNatClampNeg (x4 + 1))) (xs (Int32.toNatClampNeg (x4 + 2))) h69 _ hw) (hml.trans hl.1.symm) (by rw [hb]; exact (xb_d D_Law_law 207 rfl)) (Nat.le_of_ble_eq_true rfl) (Nat.le_of_ble_eq_true rfl) (Nat.le_of_ble_eq_true rfl) (show (k + kk70) ≤ MC by omega) (show (n + nn70) ≤ MS by omega) (xt_w1 hB.1 m_4727a86b) (xt_cdOf hB.1 m_4727a86b) (hts _ m_d5ed7bed) hB hR hS hA (fun vv h74 H locs hq hEh74 hR hS => ?_)
          obtain ⟨r75, rfl, hw⟩ := hq
          have hw := hw hEh74
          have hE := hE.tr hEh74
          refine W.eq (g2 := F0 m 435 ls [.int r75]) rfl ?_
          refine lv_istore hx hb (xb_d D_Law_law 208 rfl) hl (by decide) rfl (fun ls hl => ?_)
          have hl : lv_has ls 8 [(6, .int r75), (5, .int r70), (0, .ref x0), (1, .ref x1), (2, .ref x2), (3, .ref x3), (4, .int x4)] := hl
          refine lv_aload_n hx hb (xb_d D_Law_law 209 rfl) rfl (lv_at hl 4 rfl) ?_
          have hk73 : xb_k h74 x2 = 9 := hEh74.k hk73
          refine xb_call0 (D := D) (A := A) (σ := σ) (h := h74) (d := 2) (maxL := 1) (rest := []) (av := [.ref x2]) (fun T hT X => by obtain ⟨cb9, ra9, rb9, rc9⟩ := xb_recv (ci := 8) hR rfl hk73 (by decide); exact xt_invV X hx hown (hts _ m_4e0e8e72) (hts _ m_e6bd7a2e) (hts _ m_a9e3d950) (xt_sigOf (hts _ m_6c6d2858)) nm_M_thrown (by rw [hT]; exact ra9) rb9 rc9 (g := F0 m 438 ls [.ref x2]) rfl (argsL := []) (rest := []) rfl rfl (by rw [hb]; exact (xb_d D_Law_law 210 rfl))) (ok_M_thrown l hfl D A σ x2 h74 _ hw) (hml.trans hl.1.symm) (by rw [hb]; exact (xb_d D_Law_law 210 rfl)) (Nat.le_of_ble_eq_true rfl) (Nat.le_of_ble_eq_true rfl) (Nat.le_of_ble_eq_true rfl) (show (k + kk70) ≤ MC by omega) (show (n + nn70) ≤ MS by omega) (xt_w1 hB.1 m_6c6d2858) (xt_cdOf hB.1 m_6c6d2858) (hts _ m_d5ed7bed) hB hR hS hA (fun vv h76 H locs hq hEh76 hR hS => ?_)
          obtain ⟨r77, rfl, hw⟩ := hq
          have hw := hw hEh76
          have hE := hE.tr hEh76
          refine W.eq (g2 := F0 m 441 ls [.int r77]) rfl ?_
          refine lv_iload hx hb (xb_d D_Law_law 211 rfl) (lv_at hl 1 rfl) ?_
          refine lv_icmp_eq (tgt := 448) hx hb (xb_d D_Law_law 212 rfl) rfl (fun hc78 => ?_) (fun hc78 => ?_)
          · have hw := hw.1 hc78
            refine lv_iload hx hb (xb_d D_Law_law 215 rfl) (lv_at hl 1 rfl) ?_
            refine lv_if_ne (tgt := 465) hx hb (xb_d D_Law_law 216 rfl) rfl (fun hc79 => ?_) (fun hc79 => ?_)
            · have hw := hw.1 hc79
              exact am_Law_law_L465 l hfl D A σ L xs MC MS h0 Qr (w2_Law_law_L23 σ L xs Qr n9) ih x0 x1 x2 x3 x4 h76 bc70 bs70 hw p e s m args below meth c hC hX9 H locs ls (k + kk70) (n + nn70) hE (lv_sub hl [2, 3, 4, 5, 6] rfl) hR hS (by omega) (by omega)
            · have hw := hw.2 hc79
              refine lv_aload_n hx hb (xb_d D_Law_law 217 rfl) rfl (lv_at hl 5 rfl) ?_
              refine lv_iconst (v := 0) hx hb (xb_d D_Law_law 218 rfl) (by decide) ?_
              obtain ⟨hk81, hw⟩ := hw
              obtain ⟨hi80, hw⟩ := hw
              refine xb_lald hx hb hR hk81 hi80 (xb_d D_Law_law 219 rfl) ?_
              refine xt_numl (y := (xb_l h76 x3 0)) (congrArg (xb_l h76 x3) (by decide : (0 : Int32).toNatClampNeg = 0)) ?_
              refine lv_iload hx hb (xb_d D_Law_law 220 rfl) (lv_at hl 0 rfl) ?_
              refine lv_i2l hx hb (xb_d D_Law_law 221 rfl) rfl ?_
              refine xb_lc_eq (tgt := 465) hx hb (xb_d D_Law_law 222 rfl) (xb_d D_Law_law 223 rfl) rfl (fun hc82 => ?_) (fun hc82 => ?_)
              · have hw := hw.1 hc82
                exact am_Law_law_L465 l hfl D A σ L xs MC MS h0 Qr (w2_Law_law_L23 σ L xs Qr n9) ih x0 x1 x2 x3 x4 h76 bc70 bs70 hw p e s m args below meth c hC hX9 H locs ls (k + kk70) (n + nn70) hE (lv_sub hl [2, 3, 4, 5, 6] rfl) hR hS (by omega) (by omega)
              · have hw := hw.2 hc82
                refine lv_iconst (v := 0) hx hb (xb_d D_Law_law 224 rfl) (by decide) ?_
                exact xb_zret bc70 bs70 hx hb hr hlocks (show (k + kk70) + bc70 ≤ MC by omega) (show (n + nn70) + bs70 ≤ MS by omega) (by decide) hE hR hS (xb_d D_Law_law 225 rfl) hw
          · have hw := hw.2 hc78
            refine lv_iconst (v := 0) hx hb (xb_d D_Law_law 213 rfl) (by decide) ?_
            exact xb_zret bc70 bs70 hx hb hr hlocks (show (k + kk70) + bc70 ≤ MC by omega) (show (n + nn70) + bs70 ≤ MS by omega) (by decide) hE hR hS (xb_d D_Law_law 214 rfl) hw
        · exact False.elim hq
      have hw := hw.2
      by_cases hc83 : ((xs (Int32.toNatClampNeg x4)) &&& 31) = 5
      · have hw := hw.1 hc83
        refine xt_numi hc83 ?_
        refine lv_tableIn (off := 428) (tgt := 468) hx hb (xb_d D_Law_law 24 rfl) (by decide +kernel) (by decide +kernel) (by decide +kernel) (by decide) ?_
        refine lv_aload_n hx hb (xb_d D_Law_law 227 rfl) rfl (lv_at hl 1 rfl) ?_
        refine lv_aload_n hx hb (xb_d D_Law_law 228 rfl) rfl (lv_at hl 0 rfl) ?_
        refine lv_iload hx hb (xb_d D_Law_law 229 rfl) (lv_at hl 4 rfl) ?_
        refine lv_iconst (v := 1) hx hb (xb_d D_Law_law 230 rfl) (by decide) ?_
        refine lv_iadd hx hb (xb_d D_Law_law 231 rfl) ?_
        obtain ⟨hi84, hw⟩ := hw
        refine va_sld hx hb hX hbl hbA hS hi84 (xb_d D_Law_law 232 rfl) ?_
        refine lv_aload_n hx hb (xb_d D_Law_law 233 rfl) rfl (lv_at hl 0 rfl) ?_
        refine lv_iload hx hb (xb_d D_Law_law 234 rfl) (lv_at hl 4 rfl) ?_
        refine lv_iconst (v := 2) hx hb (xb_d D_Law_law 235 rfl) (by decide) ?_
        refine lv_iadd hx hb (xb_d D_Law_law 236 rfl) ?_
        obtain ⟨hi85, hw⟩ := hw
        refine va_sld hx hb hX hbl hbA hS hi85 (xb_d D_Law_law 237 rfl) ?_
        refine lv_aload_n hx hb (xb_d D_Law_law 238 rfl) rfl (lv_at hl 3 rfl) ?_
        refine xb_call (D := D) (A := A) (σ := σ) (h := h) (d := 4) (mc := bc) (ms := bs) (maxL := 5) (rest := []) (av := [.ref x1, .int (xs (Int32.toNatClampNeg (x4 + 1))), .int (xs (Int32.toNatClampNeg (x4 + 2))), .ref x3]) (fun T hT X => xt_invS X hx hown (hts _ m_868e8495) (hts _ m_4fdd4d2e) (hts _ m_6445b362) (xt_sgSH (hts _ m_21e6add5)).1 (xt_sgSH (hts _ m_21e6add5)).2 nm_Law_room (g := F0 m 482 ls [.ref x3, .int (xs (Int32.toNatClampNeg (x4 + 2))), .int (xs (Int32.toNatClampNeg (x4 + 1))), .ref x1]) rfl (argsL := [.ref x1, .int (xs (Int32.toNatClampNeg (x4 + 1))), .int (xs (Int32.toNatClampNeg (x4 + 2))), .ref x3]) (rest := []) rfl rfl (by rw [hb]; exact (xb_d D_Law_law 239 rfl))) (ok_Law_room l hfl D A σ x1 (xs (Int32.toNatClampNeg (x4 + 1))) (xs (Int32.toNatClampNeg (x4 + 2))) x3 h bc bs _ hw) (hml.trans hl.1.symm) (by rw [hb]; exact (xb_d D_Law_law 239 rfl)) (Nat.le_of_ble_eq_true rfl) (Nat.le_of_ble_eq_true rfl) (Nat.le_of_ble_eq_true rfl) (show k + bc ≤ MC by omega) (show n + bs ≤ MS by omega) (xt_w1 hB.1 m_21e6add5) (xt_cdOfH hB.1 m_21e6add5) (hts _ m_6445b362) hB hR hS hA (fun vv h86 bc87 bs87 kk87 nn87 H locs hk87 hn87 hq hEh86 hR hS => ?_) (fun XX ax h86 bc87 bs87 kk87 nn87 H locs hk87 hn87 hq hEh86 hex hR hS => ?_)
        · obtain ⟨r87, rfl, hw⟩ := hq
          have hw := hw hEh86
          have hE := hE.tr hEh86
          refine W.eq (g2 := F0 m 485 ls [.int r87]) rfl ?_
          refine lv_istore hx hb (xb_d D_Law_law 240 rfl) hl (by decide) rfl (fun ls hl => ?_)
          have hl : lv_has ls 8 [(5, .int r87), (0, .ref x0), (1, .ref x1), (2, .ref x2), (3, .ref x3), (4, .int x4)] := hl
          refine lv_aload_n hx hb (xb_d D_Law_law 241 rfl) rfl (lv_at hl 3 rfl) ?_
          refine lv_aload_n hx hb (xb_d D_Law_law 242 rfl) rfl (lv_at hl 1 rfl) ?_
          refine lv_iload hx hb (xb_d D_Law_law 243 rfl) (lv_at hl 5 rfl) ?_
          refine lv_iconst (v := 1) hx hb (xb_d D_Law_law 244 rfl) (by decide) ?_
          refine lv_iadd hx hb (xb_d D_Law_law 245 rfl) ?_
          obtain ⟨hi88, hw⟩ := hw
          refine va_sld hx hb hX hbl hbA hS hi88 (xb_d D_Law_law 246 rfl) ?_
          refine lv_aload_n hx hb (xb_d D_Law_law 247 rfl) rfl (lv_at hl 1 rfl) ?_
          refine lv_iload hx hb (xb_d D_Law_law 248 rfl) (lv_at hl 5 rfl) ?_
          refine lv_iconst (v := 2) hx hb (xb_d D_Law_law 249 rfl) (by decide) ?_
          refine lv_iadd hx hb (xb_d D_Law_law 250 rfl) ?_
          obtain ⟨hi89, hw⟩ := hw
          refine va_sld hx hb hX hbl hbA hS hi89 (xb_d D_Law_law 251 rfl) ?_
          obtain ⟨hk90, hw⟩ := hw
          refine xb_call0 (D := D) (A := A) (σ := σ) (h := h86) (d := 3) (maxL := 3) (rest := []) (av := [.ref x2, .int (xs (Int32.toNatClampNeg (x4 + 1))), .int (xs (Int32.toNatClampNeg (x4 + 2)))]) (fun T hT X => by obtain ⟨cb9, ra9, rb9, rc9⟩ := xb_recv (ci := 8) hR rfl hk90 (by decide); exact xt_invV X hx hown (hts _ m_7fbeed31) (hts _ m_de1fd268) (hts _ m_6999cd16) (xt_sigOf (hts _ m_5826b26c)) nm_M_room (by rw [hT]; exact ra9) rb9 rc9 (g := F0 m 500 ls [.int (xs (Int32.toNatClampNeg (x4 + 2))), .int (xs (Int32.toNatClampNeg (x4 + 1))), .ref x2]) rfl (argsL := [.int (xs (Int32.toNatClampNeg (x4 + 1))), .int (xs (Int32.toNatClampNeg (x4 + 2)))]) (rest := []) rfl rfl (by rw [hb]; exact (xb_d D_Law_law 252 rfl))) (ok_M_room l hfl D A σ x2 (xs (Int32.toNatClampNeg (x4 + 1))) (xs (Int32.toNatClampNeg (x4 + 2))) h86 _ hw) (hml.trans hl.1.symm) (by rw [hb]; exact (xb_d D_Law_law 252 rfl)) (Nat.le_of_ble_eq_true rfl) (Nat.le_of_ble_eq_true rfl) (Nat.le_of_ble_eq_true rfl) (show (k + kk87) ≤ MC by omega) (show (n + nn87) ≤ MS by omega) (xt_w1 hB.1 m_5826b26c) (xt_cdOf hB.1 m_5826b26c) (hts _ m_d5ed7bed) hB hR hS hA (fun vv h91 H locs hq hEh91 hR hS => ?_)
          obtain ⟨r92, rfl, hw⟩ := hq
          have hw := hw hEh91
          have hE := hE.tr hEh91
          refine W.eq (g2 := F0 m 503 ls [.int r92]) rfl ?_
          refine lv_istore hx hb (xb_d D_Law_law 253 rfl) hl (by decide) rfl (fun ls hl => ?_)
          have hl : lv_has ls 8 [(6, .int r92), (5, .int r87), (0, .ref x0), (1, .ref x1), (2, .ref x2), (3, .ref x3), (4, .int x4)] := hl
          refine lv_aload_n hx hb (xb_d D_Law_law 254 rfl) rfl (lv_at hl 4 rfl) ?_
          have hk90 : xb_k h91 x2 = 9 := hEh91.k hk90
          refine xb_call0 (D := D) (A := A) (σ := σ) (h := h91) (d := 2) (maxL := 1) (rest := []) (av := [.ref x2]) (fun T hT X => by obtain ⟨cb9, ra9, rb9, rc9⟩ := xb_recv (ci := 8) hR rfl hk90 (by decide); exact xt_invV X hx hown (hts _ m_4e0e8e72) (hts _ m_e6bd7a2e) (hts _ m_a9e3d950) (xt_sigOf (hts _ m_6c6d2858)) nm_M_thrown (by rw [hT]; exact ra9) rb9 rc9 (g := F0 m 506 ls [.ref x2]) rfl (argsL := []) (rest := []) rfl rfl (by rw [hb]; exact (xb_d D_Law_law 255 rfl))) (ok_M_thrown l hfl D A σ x2 h91 _ hw) (hml.trans hl.1.symm) (by rw [hb]; exact (xb_d D_Law_law 255 rfl)) (Nat.le_of_ble_eq_true rfl) (Nat.le_of_ble_eq_true rfl) (Nat.le_of_ble_eq_true rfl) (show (k + kk87) ≤ MC by omega) (show (n + nn87) ≤ MS by omega) (xt_w1 hB.1 m_6c6d2858) (xt_cdOf hB.1 m_6c6d2858) (hts _ m_d5ed7bed) hB hR hS hA (fun vv h93 H locs hq hEh93 hR hS => ?_)
          obtain ⟨r94, rfl, hw⟩ := hq
          have hw := hw hEh93
          have hE := hE.tr hEh93
          refine W.eq (g2 := F0 m 509 ls [.int r94]) rfl ?_
          refine lv_iload hx hb (xb_d D_Law_law 256 rfl) (lv_at hl 1 rfl) ?_
          refine lv_icmp_eq (tgt := 516) hx hb (xb_d D_Law_law 257 rfl) rfl (fun hc95 => ?_) (fun hc95 => ?_)
          · have hw := hw.1 hc95
            refine lv_iload hx hb (xb_d D_Law_law 260 rfl) (lv_at hl 1 rfl) ?_
            refine lv_if_ne (tgt := 533) hx hb (xb_d D_Law_law 261 rfl) rfl (fun hc96 => ?_) (fun hc96 => ?_)
            · have hw := hw.1 hc96
              exact am_Law_law_L533 l hfl D A σ L xs MC MS h0 Qr (w2_Law_law_L23 σ L xs Qr n9) ih x0 x1 x2 x3 x4 h93 bc87 bs87 hw p e s m args below meth c hC hX9 H locs ls (k + kk87) (n + nn87) hE (lv_sub hl [2, 3, 4, 5, 6] rfl) hR hS (by omega) (by omega)
            · have hw := hw.2 hc96
              refine lv_aload_n hx hb (xb_d D_Law_law 262 rfl) rfl (lv_at hl 5 rfl) ?_
              refine lv_iconst (v := 0) hx hb (xb_d D_Law_law 263 rfl) (by decide) ?_
              obtain ⟨hk98, hw⟩ := hw
              obtain ⟨hi97, hw⟩ := hw
              refine xb_lald hx hb hR hk98 hi97 (xb_d D_Law_law 264 rfl) ?_
              refine xt_numl (y := (xb_l h93 x3 0)) (congrArg (xb_l h93 x3) (by decide : (0 : Int32).toNatClampNeg = 0)) ?_
              refine lv_iload hx hb (xb_d D_Law_law 265 rfl) (lv_at hl 0 rfl) ?_
              refine lv_i2l hx hb (xb_d D_Law_law 266 rfl) rfl ?_
              refine xb_lc_eq (tgt := 533) hx hb (xb_d D_Law_law 267 rfl) (xb_d D_Law_law 268 rfl) rfl (fun hc99 => ?_) (fun hc99 => ?_)
              · have hw := hw.1 hc99
                exact am_Law_law_L533 l hfl D A σ L xs MC MS h0 Qr (w2_Law_law_L23 σ L xs Qr n9) ih x0 x1 x2 x3 x4 h93 bc87 bs87 hw p e s m args below meth c hC hX9 H locs ls (k + kk87) (n + nn87) hE (lv_sub hl [2, 3, 4, 5, 6] rfl) hR hS (by omega) (by omega)
              · have hw := hw.2 hc99
                refine lv_iconst (v := 0) hx hb (xb_d D_Law_law 269 rfl) (by decide) ?_
                exact xb_zret bc87 bs87 hx hb hr hlocks (show (k + kk87) + bc87 ≤ MC by omega) (show (n + nn87) + bs87 ≤ MS by omega) (by decide) hE hR hS (xb_d D_Law_law 270 rfl) hw
          · have hw := hw.2 hc95
            refine lv_iconst (v := 0) hx hb (xb_d D_Law_law 258 rfl) (by decide) ?_
            exact xb_zret bc87 bs87 hx hb hr hlocks (show (k + kk87) + bc87 ≤ MC by omega) (show (n + nn87) + bs87 ≤ MS by omega) (by decide) hE hR hS (xb_d D_Law_law 259 rfl) hw
        · exact False.elim hq
      have hw := hw.2
      by_cases hc100 : ((xs (Int32.toNatClampNeg x4)) &&& 31) = 6
      · have hw := hw.1 hc100
        refine xt_numi hc100 ?_
        refine lv_tableIn (off := 496) (tgt := 536) hx hb (xb_d D_Law_law 24 rfl) (by decide +kernel) (by decide +kernel) (by decide +kernel) (by decide) ?_
        refine lv_aload_n hx hb (xb_d D_Law_law 272 rfl) rfl (lv_at hl 1 rfl) ?_
        refine lv_aload_n hx hb (xb_d D_Law_law 273 rfl) rfl (lv_at hl 0 rfl) ?_
        refine lv_iload hx hb (xb_d D_Law_law 274 rfl) (lv_at hl 4 rfl) ?_
        refine lv_iconst (v := 1) hx hb (xb_d D_Law_law 275 rfl) (by decide) ?_
        refine lv_iadd hx hb (xb_d D_Law_law 276 rfl) ?_
        obtain ⟨hi101, hw⟩ := hw
        refine va_sld hx hb hX hbl hbA hS hi101 (xb_d D_Law_law 277 rfl) ?_
        refine lv_aload_n hx hb (xb_d D_Law_law 278 rfl) rfl (lv_at hl 3 rfl) ?_
        refine xb_call (D := D) (A := A) (σ := σ) (h := h) (d := 9) (mc := bc) (ms := bs) (maxL := 4) (rest := []) (av := [.ref x1, .int (xs (Int32.toNatClampNeg (x4 + 1))), .ref x3]) (fun T hT X => xt_invS X hx hown (hts _ m_055ef8d6) (hts _ m_ca4e0918) (hts _ m_6445b362) (xt_sgSH (hts _ m_2e473db3)).1 (xt_sgSH (hts _ m_2e473db3)).2 nm_Law_instantiate (g := F0 m 544 ls [.ref x3, .int (xs (Int32.toNatClampNeg (x4 + 1))), .ref x1]) rfl (argsL := [.ref x1, .int (xs (Int32.toNatClampNeg (x4 + 1))), .ref x3]) (rest := []) rfl rfl (by rw [hb]; exact (xb_d D_Law_law 279 rfl))) (ok_Law_instantiate l hfl D A σ x1 (xs (Int32.toNatClampNeg (x4 + 1))) x3 h bc bs _ hw) (hml.trans hl.1.symm) (by rw [hb]; exact (xb_d D_Law_law 279 rfl)) (Nat.le_of_ble_eq_true rfl) (Nat.le_of_ble_eq_true rfl) (Nat.le_of_ble_eq_true rfl) (show k + bc ≤ MC by omega) (show n + bs ≤ MS by omega) (xt_w1 hB.1 m_2e473db3) (xt_cdOfH hB.1 m_2e473db3) (hts _ m_6445b362) hB hR hS hA (fun vv h102 bc103 bs103 kk103 nn103 H locs hk103 hn103 hq hEh102 hR hS => ?_) (fun XX ax h102 bc103 bs103 kk103 nn103 H locs hk103 hn103 hq hEh102 hex hR hS => ?_)
        · obtain ⟨r103, rfl, hw⟩ := hq
          have hw := hw hEh102
          have hE := hE.tr hEh102
          refine W.eq (g2 := F0 m 547 ls [.int r103]) rfl ?_
          refine lv_istore hx hb (xb_d D_Law_law 280 rfl) hl (by decide) rfl (fun ls hl => ?_)
          have hl : lv_has ls 8 [(5, .int r103), (0, .ref x0), (1, .ref x1), (2, .ref x2), (3, .ref x3), (4, .int x4)] := hl
          refine lv_aload_n hx hb (xb_d D_Law_law 281 rfl) rfl (lv_at hl 3 rfl) ?_
          refine lv_aload_n hx hb (xb_d D_Law_law 282 rfl) rfl (lv_at hl 1 rfl) ?_
          refine lv_iload hx hb (xb_d D_Law_law 283 rfl) (lv_at hl 5 rfl) ?_
          refine lv_iconst (v := 1) hx hb (xb_d D_Law_law 284 rfl) (by decide) ?_
          refine lv_iadd hx hb (xb_d D_Law_law 285 rfl) ?_
          obtain ⟨hi104, hw⟩ := hw
          refine va_sld hx hb hX hbl hbA hS hi104 (xb_d D_Law_law 286 rfl) ?_
          obtain ⟨hk105, hw⟩ := hw
          refine xb_call (D := D) (A := A) (σ := σ) (h := h102) (d := 12) (mc := bc103) (ms := bs103) (maxL := 14) (rest := []) (av := [.ref x2, .int (xs (Int32.toNatClampNeg (x4 + 1)))]) (fun T hT X => by obtain ⟨cb9, ra9, rb9, rc9⟩ := xb_recv (ci := 8) hR rfl hk105 (by decide); exact xt_invV X hx hown (hts _ m_c1618c1c) (hts _ m_9c192fc6) (hts _ m_4464a7c4) (xt_sigOf (hts _ m_7f8a5ab1)) nm_M_instantiate (by rw [hT]; exact ra9) rb9 rc9 (g := F0 m 556 ls [.int (xs (Int32.toNatClampNeg (x4 + 1))), .ref x2]) rfl (argsL := [.int (xs (Int32.toNatClampNeg (x4 + 1)))]) (rest := []) rfl rfl (by rw [hb]; exact (xb_d D_Law_law 287 rfl))) (ok_M_instantiate l hfl D A σ x2 (xs (Int32.toNatClampNeg (x4 + 1))) h102 bc103 bs103 _ hw) (hml.trans hl.1.symm) (by rw [hb]; exact (xb_d D_Law_law 287 rfl)) (Nat.le_of_ble_eq_true rfl) (Nat.le_of_ble_eq_true rfl) (Nat.le_of_ble_eq_true rfl) (show (k + kk103) + bc103 ≤ MC by omega) (show (n + nn103) + bs103 ≤ MS by omega) (xt_w1 hB.1 m_7f8a5ab1) (xt_cdOf hB.1 m_7f8a5ab1) (hts _ m_d5ed7bed) hB hR hS hA (fun vv h106 bc107 bs107 kk107 nn107 H locs hk107 hn107 hq hEh106 hR hS => ?_) (fun XX ax h106 bc107 bs107 kk107 nn107 H locs hk107 hn107 hq hEh106 hex hR hS => ?_)
          · obtain ⟨r107, rfl, hw⟩ := hq
            have hw := hw hEh106
            have hE := hE.tr hEh106
            refine W.eq (g2 := F0 m 559 ls [.int r107]) rfl ?_
            refine lv_istore hx hb (xb_d D_Law_law 288 rfl) hl (by decide) rfl (fun ls hl => ?_)
            have hl : lv_has ls 8 [(6, .int r107), (5, .int r103), (0, .ref x0), (1, .ref x1), (2, .ref x2), (3, .ref x3), (4, .int x4)] := hl
            refine lv_aload_n hx hb (xb_d D_Law_law 289 rfl) rfl (lv_at hl 4 rfl) ?_
            have hk105 : xb_k h106 x2 = 9 := hEh106.k hk105
            refine xb_call0 (D := D) (A := A) (σ := σ) (h := h106) (d := 2) (maxL := 1) (rest := []) (av := [.ref x2]) (fun T hT X => by obtain ⟨cb9, ra9, rb9, rc9⟩ := xb_recv (ci := 8) hR rfl hk105 (by decide); exact xt_invV X hx hown (hts _ m_4e0e8e72) (hts _ m_e6bd7a2e) (hts _ m_a9e3d950) (xt_sigOf (hts _ m_6c6d2858)) nm_M_thrown (by rw [hT]; exact ra9) rb9 rc9 (g := F0 m 562 ls [.ref x2]) rfl (argsL := []) (rest := []) rfl rfl (by rw [hb]; exact (xb_d D_Law_law 290 rfl))) (ok_M_thrown l hfl D A σ x2 h106 _ hw) (hml.trans hl.1.symm) (by rw [hb]; exact (xb_d D_Law_law 290 rfl)) (Nat.le_of_ble_eq_true rfl) (Nat.le_of_ble_eq_true rfl) (Nat.le_of_ble_eq_true rfl) (show ((k + kk103) + kk107) ≤ MC by omega) (show ((n + nn103) + nn107) ≤ MS by omega) (xt_w1 hB.1 m_6c6d2858) (xt_cdOf hB.1 m_6c6d2858) (hts _ m_d5ed7bed) hB hR hS hA (fun vv h108 H locs hq hEh108 hR hS => ?_)
            obtain ⟨r109, rfl, hw⟩ := hq
            have hw := hw hEh108
            have hE := hE.tr hEh108
            refine W.eq (g2 := F0 m 565 ls [.int r109]) rfl ?_
            refine lv_iload hx hb (xb_d D_Law_law 291 rfl) (lv_at hl 1 rfl) ?_
            refine lv_icmp_eq (tgt := 572) hx hb (xb_d D_Law_law 292 rfl) rfl (fun hc110 => ?_) (fun hc110 => ?_)
            · have hw := hw.1 hc110
              refine lv_iload hx hb (xb_d D_Law_law 295 rfl) (lv_at hl 1 rfl) ?_
              refine lv_if_ne (tgt := 589) hx hb (xb_d D_Law_law 296 rfl) rfl (fun hc111 => ?_) (fun hc111 => ?_)
              · have hw := hw.1 hc111
                exact am_Law_law_L589 l hfl D A σ L xs MC MS h0 Qr (w2_Law_law_L23 σ L xs Qr n9) ih x0 x1 x2 x3 x4 h108 bc107 bs107 hw p e s m args below meth c hC hX9 H locs ls ((k + kk103) + kk107) ((n + nn103) + nn107) hE (lv_sub hl [2, 3, 4, 5, 6] rfl) hR hS (by omega) (by omega)
              · have hw := hw.2 hc111
                refine lv_aload_n hx hb (xb_d D_Law_law 297 rfl) rfl (lv_at hl 5 rfl) ?_
                refine lv_iconst (v := 0) hx hb (xb_d D_Law_law 298 rfl) (by decide) ?_
                obtain ⟨hk113, hw⟩ := hw
                obtain ⟨hi112, hw⟩ := hw
                refine xb_lald hx hb hR hk113 hi112 (xb_d D_Law_law 299 rfl) ?_
                refine xt_numl (y := (xb_l h108 x3 0)) (congrArg (xb_l h108 x3) (by decide : (0 : Int32).toNatClampNeg = 0)) ?_
                refine lv_iload hx hb (xb_d D_Law_law 300 rfl) (lv_at hl 0 rfl) ?_
                refine lv_i2l hx hb (xb_d D_Law_law 301 rfl) rfl ?_
                refine xb_lc_eq (tgt := 589) hx hb (xb_d D_Law_law 302 rfl) (xb_d D_Law_law 303 rfl) rfl (fun hc114 => ?_) (fun hc114 => ?_)
                · have hw := hw.1 hc114
                  exact am_Law_law_L589 l hfl D A σ L xs MC MS h0 Qr (w2_Law_law_L23 σ L xs Qr n9) ih x0 x1 x2 x3 x4 h108 bc107 bs107 hw p e s m args below meth c hC hX9 H locs ls ((k + kk103) + kk107) ((n + nn103) + nn107) hE (lv_sub hl [2, 3, 4, 5, 6] rfl) hR hS (by omega) (by omega)
                · have hw := hw.2 hc114
                  refine lv_iconst (v := 0) hx hb (xb_d D_Law_law 304 rfl) (by decide) ?_
                  exact xb_zret bc107 bs107 hx hb hr hlocks (show ((k + kk103) + kk107) + bc107 ≤ MC by omega) (show ((n + nn103) + nn107) + bs107 ≤ MS by omega) (by decide) hE hR hS (xb_d D_Law_law 305 rfl) hw
            · have hw := hw.2 hc110
              refine lv_iconst (v := 0) hx hb (xb_d D_Law_law 293 rfl) (by decide) ?_
              exact xb_zret bc107 bs107 hx hb hr hlocks (show ((k + kk103) + kk107) + bc107 ≤ MC by omega) (show ((n + nn103) + nn107) + bs107 ≤ MS by omega) (by decide) hE hR hS (xb_d D_Law_law 294 rfl) hw
          · exact False.elim hq
        · exact False.elim hq
      have hw := hw.2
      by_cases hc115 : ((xs (Int32.toNatClampNeg x4)) &&& 31) = 7
      · have hw := hw.1 hc115
        refine xt_numi hc115 ?_
        refine lv_tableIn (off := 552) (tgt := 592) hx hb (xb_d D_Law_law 24 rfl) (by decide +kernel) (by decide +kernel) (by decide +kernel) (by decide) ?_
        refine lv_aload_n hx hb (xb_d D_Law_law 307 rfl) rfl (lv_at hl 1 rfl) ?_
        refine lv_aload_n hx hb (xb_d D_Law_law 308 rfl) rfl (lv_at hl 0 rfl) ?_
        refine lv_iload hx hb (xb_d D_Law_law 309 rfl) (lv_at hl 4 rfl) ?_
        refine lv_iconst (v := 1) hx hb (xb_d D_Law_law 310 rfl) (by decide) ?_
        refine lv_iadd hx hb (xb_d D_Law_law 311 rfl) ?_
        obtain ⟨hi116, hw⟩ := hw
        refine va_sld hx hb hX hbl hbA hS hi116 (xb_d D_Law_law 312 rfl) ?_
        refine xb_call (D := D) (A := A) (σ := σ) (h := h) (d := 7) (mc := bc) (ms := bs) (maxL := 3) (rest := []) (av := [.ref x1, .int (xs (Int32.toNatClampNeg (x4 + 1)))]) (fun T hT X => xt_invS X hx hown (hts _ m_dffd3298) (hts _ m_95e9795d) (hts _ m_6445b362) (xt_sgSH (hts _ m_25ac2c1f)).1 (xt_sgSH (hts _ m_25ac2c1f)).2 nm_Law_name (g := F0 m 599 ls [.int (xs (Int32.toNatClampNeg (x4 + 1))), .ref x1]) rfl (argsL := [.ref x1, .int (xs (Int32.toNatClampNeg (x4 + 1)))]) (rest := []) rfl rfl (by rw [hb]; exact (xb_d D_Law_law 313 rfl))) (ok_Law_name l hfl D A σ x1 (xs (Int32.toNatClampNeg (x4 + 1))) h bc bs _ hw) (hml.trans hl.1.symm) (by rw [hb]; exact (xb_d D_Law_law 313 rfl)) (Nat.le_of_ble_eq_true rfl) (Nat.le_of_ble_eq_true rfl) (Nat.le_of_ble_eq_true rfl) (show k + bc ≤ MC by omega) (show n + bs ≤ MS by omega) (xt_w1 hB.1 m_25ac2c1f) (xt_cdOfH hB.1 m_25ac2c1f) (hts _ m_6445b362) hB hR hS hA (fun vv h117 bc118 bs118 kk118 nn118 H locs hk118 hn118 hq hEh117 hR hS => ?_) (fun XX ax h117 bc118 bs118 kk118 nn118 H locs hk118 hn118 hq hEh117 hex hR hS => ?_)
        · obtain ⟨r118, rfl, hw⟩ := hq
          have hw := hw hEh117
          have hE := hE.tr hEh117
          refine W.eq (g2 := F0 m 602 ls [.int r118]) rfl ?_
          refine lv_istore hx hb (xb_d D_Law_law 314 rfl) hl (by decide) rfl (fun ls hl => ?_)
          have hl : lv_has ls 8 [(5, .int r118), (0, .ref x0), (1, .ref x1), (2, .ref x2), (3, .ref x3), (4, .int x4)] := hl
          refine lv_aload_n hx hb (xb_d D_Law_law 315 rfl) rfl (lv_at hl 3 rfl) ?_
          refine lv_aload_n hx hb (xb_d D_Law_law 316 rfl) rfl (lv_at hl 1 rfl) ?_
          refine lv_iload hx hb (xb_d D_Law_law 317 rfl) (lv_at hl 5 rfl) ?_
          refine lv_iconst (v := 1) hx hb (xb_d D_Law_law 318 rfl) (by decide) ?_
          refine lv_iadd hx hb (xb_d D_Law_law 319 rfl) ?_
          obtain ⟨hi119, hw⟩ := hw
          refine va_sld hx hb hX hbl hbA hS hi119 (xb_d D_Law_law 320 rfl) ?_
          obtain ⟨hk120, hw⟩ := hw
          refine xb_call (D := D) (A := A) (σ := σ) (h := h117) (d := 4) (mc := bc118) (ms := bs118) (maxL := 2) (rest := []) (av := [.ref x2, .int (xs (Int32.toNatClampNeg (x4 + 1)))]) (fun T hT X => by obtain ⟨cb9, ra9, rb9, rc9⟩ := xb_recv (ci := 8) hR rfl hk120 (by decide); exact xt_invV X hx hown (hts _ m_690c341d) (hts _ m_ceb59520) (hts _ m_66c1bb6d) (xt_sigOf (hts _ m_b957af9e)) nm_M_name1 (by rw [hT]; exact ra9) rb9 rc9 (g := F0 m 611 ls [.int (xs (Int32.toNatClampNeg (x4 + 1))), .ref x2]) rfl (argsL := [.int (xs (Int32.toNatClampNeg (x4 + 1)))]) (rest := []) rfl rfl (by rw [hb]; exact (xb_d D_Law_law 321 rfl))) (ok_M_name1 l hfl D A σ x2 (xs (Int32.toNatClampNeg (x4 + 1))) h117 bc118 bs118 _ hw) (hml.trans hl.1.symm) (by rw [hb]; exact (xb_d D_Law_law 321 rfl)) (Nat.le_of_ble_eq_true rfl) (Nat.le_of_ble_eq_true rfl) (Nat.le_of_ble_eq_true rfl) (show (k + kk118) + bc118 ≤ MC by omega) (show (n + nn118) + bs118 ≤ MS by omega) (xt_w1 hB.1 m_b957af9e) (xt_cdOf hB.1 m_b957af9e) (hts _ m_d5ed7bed) hB hR hS hA (fun vv h121 bc122 bs122 kk122 nn122 H locs hk122 hn122 hq hEh121 hR hS => ?_) (fun XX ax h121 bc122 bs122 kk122 nn122 H locs hk122 hn122 hq hEh121 hex hR hS => ?_)
          · obtain ⟨rfl, hw⟩ := hq
            have hw := hw hEh121
            have hE := hE.tr hEh121
            refine W.eq (g2 := F0 m 614 ls []) rfl ?_
            refine lv_aload_n hx hb (xb_d D_Law_law 322 rfl) rfl (lv_at hl 3 rfl) ?_
            have hk120 : xb_k h121 x2 = 9 := hEh121.k hk120
            refine xb_call0 (D := D) (A := A) (σ := σ) (h := h121) (d := 2) (maxL := 1) (rest := []) (av := [.ref x2]) (fun T hT X => by obtain ⟨cb9, ra9, rb9, rc9⟩ := xb_recv (ci := 8) hR rfl hk120 (by decide); exact xt_invV X hx hown (hts _ m_4e0e8e72) (hts _ m_e6bd7a2e) (hts _ m_a9e3d950) (xt_sigOf (hts _ m_6c6d2858)) nm_M_thrown (by rw [hT]; exact ra9) rb9 rc9 (g := F0 m 615 ls [.ref x2]) rfl (argsL := []) (rest := []) rfl rfl (by rw [hb]; exact (xb_d D_Law_law 323 rfl))) (ok_M_thrown l hfl D A σ x2 h121 _ hw) (hml.trans hl.1.symm) (by rw [hb]; exact (xb_d D_Law_law 323 rfl)) (Nat.le_of_ble_eq_true rfl) (Nat.le_of_ble_eq_true rfl) (Nat.le_of_ble_eq_true rfl) (show ((k + kk118) + kk122) ≤ MC by omega) (show ((n + nn118) + nn122) ≤ MS by omega) (xt_w1 hB.1 m_6c6d2858) (xt_cdOf hB.1 m_6c6d2858) (hts _ m_d5ed7bed) hB hR hS hA (fun vv h123 H locs hq hEh123 hR hS => ?_)
            obtain ⟨r124, rfl, hw⟩ := hq
            have hw := hw hEh123
            have hE := hE.tr hEh123
            refine W.eq (g2 := F0 m 618 ls [.int r124]) rfl ?_
            refine lv_iload hx hb (xb_d D_Law_law 324 rfl) (lv_at hl 0 rfl) ?_
            refine lv_icmp_eq (tgt := 625) hx hb (xb_d D_Law_law 325 rfl) rfl (fun hc125 => ?_) (fun hc125 => ?_)
            · have hw := hw.1 hc125
              refine lv_goto (tgt := 1465) hx hb (xb_d D_Law_law 328 rfl) rfl ?_
              exact am_Law_law_L1465 l hfl D A σ L xs MC MS h0 Qr (w2_Law_law_L23 σ L xs Qr n9) ih x0 x1 x2 x3 x4 h123 bc122 bs122 hw p e s m args below meth c hC hX9 H locs ls ((k + kk118) + kk122) ((n + nn118) + nn122) hE (lv_sub hl [1, 2, 3, 4, 5] rfl) hR hS (by omega) (by omega)
            · have hw := hw.2 hc125
              refine lv_iconst (v := 0) hx hb (xb_d D_Law_law 326 rfl) (by decide) ?_
              exact xb_zret bc122 bs122 hx hb hr hlocks (show ((k + kk118) + kk122) + bc122 ≤ MC by omega) (show ((n + nn118) + nn122) + bs122 ≤ MS by omega) (by decide) hE hR hS (xb_d D_Law_law 327 rfl) hw
          · exact False.elim hq
        · exact False.elim hq
      have hw := hw.2
      by_cases hc126 : ((xs (Int32.toNatClampNeg x4)) &&& 31) = 8
      · have hw := hw.1 hc126
        refine xt_numi hc126 ?_
        refine lv_tableIn (off := 588) (tgt := 628) hx hb (xb_d D_Law_law 24 rfl) (by decide +kernel) (by decide +kernel) (by decide +kernel) (by decide) ?_
        refine lv_aload_n hx hb (xb_d D_Law_law 329 rfl) rfl (lv_at hl 1 rfl) ?_
        refine lv_aload_n hx hb (xb_d D_Law_law 330 rfl) rfl (lv_at hl 0 rfl) ?_
        refine lv_iload hx hb (xb_d D_Law_law 331 rfl) (lv_at hl 4 rfl) ?_
        refine lv_iconst (v := 1) hx hb (xb_d D_Law_law 332 rfl) (by decide) ?_
        refine lv_iadd hx hb (xb_d D_Law_law 333 rfl) ?_
        obtain ⟨hi127, hw⟩ := hw
        refine va_sld hx hb hX hbl hbA hS hi127 (xb_d D_Law_law 334 rfl) ?_
        refine lv_aload_n hx hb (xb_d D_Law_law 335 rfl) rfl (lv_at hl 3 rfl) ?_
        refine xb_call (D := D) (A := A) (σ := σ) (h := h) (d := 6) (mc := bc) (ms := bs) (maxL := 4) (rest := []) (av := [.ref x1, .int (xs (Int32.toNatClampNeg (x4 + 1))), .ref x3]) (fun T hT X => xt_invS X hx hown (hts _ m_452acb62) (hts _ m_8fcc0bf2) (hts _ m_6445b362) (xt_sgSH (hts _ m_e6af087c)).1 (xt_sgSH (hts _ m_e6af087c)).2 nm_Law_find (g := F0 m 636 ls [.ref x3, .int (xs (Int32.toNatClampNeg (x4 + 1))), .ref x1]) rfl (argsL := [.ref x1, .int (xs (Int32.toNatClampNeg (x4 + 1))), .ref x3]) (rest := []) rfl rfl (by rw [hb]; exact (xb_d D_Law_law 336 rfl))) (ok_Law_find l hfl D A σ x1 (xs (Int32.toNatClampNeg (x4 + 1))) x3 h bc bs _ hw) (hml.trans hl.1.symm) (by rw [hb]; exact (xb_d D_Law_law 336 rfl)) (Nat.le_of_ble_eq_true rfl) (Nat.le_of_ble_eq_true rfl) (Nat.le_of_ble_eq_true rfl) (show k + bc ≤ MC by omega) (show n + bs ≤ MS by omega) (xt_w1 hB.1 m_e6af087c) (xt_cdOfH hB.1 m_e6af087c) (hts _ m_6445b362) hB hR hS hA (fun vv h128 bc129 bs129 kk129 nn129 H locs hk129 hn129 hq hEh128 hR hS => ?_) (fun XX ax h128 bc129 bs129 kk129 nn129 H locs hk129 hn129 hq hEh128 hex hR hS => ?_)
        · obtain ⟨r129, rfl, hw⟩ := hq
          have hw := hw hEh128
          have hE := hE.tr hEh128
          refine W.eq (g2 := F0 m 639 ls [.int r129]) rfl ?_
          refine lv_istore hx hb (xb_d D_Law_law 337 rfl) hl (by decide) rfl (fun ls hl => ?_)
          have hl : lv_has ls 8 [(5, .int r129), (0, .ref x0), (1, .ref x1), (2, .ref x2), (3, .ref x3), (4, .int x4)] := hl
          refine lv_aload_n hx hb (xb_d D_Law_law 338 rfl) rfl (lv_at hl 3 rfl) ?_
          refine lv_aload_n hx hb (xb_d D_Law_law 339 rfl) rfl (lv_at hl 1 rfl) ?_
          refine lv_iload hx hb (xb_d D_Law_law 340 rfl) (lv_at hl 5 rfl) ?_
          refine lv_iconst (v := 1) hx hb (xb_d D_Law_law 341 rfl) (by decide) ?_
          refine lv_iadd hx hb (xb_d D_Law_law 342 rfl) ?_
          obtain ⟨hi130, hw⟩ := hw
          refine va_sld hx hb hX hbl hbA hS hi130 (xb_d D_Law_law 343 rfl) ?_
          obtain ⟨hk131, hw⟩ := hw
          refine xb_call (D := D) (A := A) (σ := σ) (h := h128) (d := 7) (mc := bc129) (ms := bs129) (maxL := 4) (rest := []) (av := [.ref x2, .int (xs (Int32.toNatClampNeg (x4 + 1)))]) (fun T hT X => by obtain ⟨cb9, ra9, rb9, rc9⟩ := xb_recv (ci := 8) hR rfl hk131 (by decide); exact xt_invV X hx hown (hts _ m_158900db) (hts _ m_033ea03f) (hts _ m_204d37c5) (xt_sigOf (hts _ m_36d1dd5e)) nm_M_find (by rw [hT]; exact ra9) rb9 rc9 (g := F0 m 648 ls [.int (xs (Int32.toNatClampNeg (x4 + 1))), .ref x2]) rfl (argsL := [.int (xs (Int32.toNatClampNeg (x4 + 1)))]) (rest := []) rfl rfl (by rw [hb]; exact (xb_d D_Law_law 344 rfl))) (ok_M_find l hfl D A σ x2 (xs (Int32.toNatClampNeg (x4 + 1))) h128 bc129 bs129 _ hw) (hml.trans hl.1.symm) (by rw [hb]; exact (xb_d D_Law_law 344 rfl)) (Nat.le_of_ble_eq_true rfl) (Nat.le_of_ble_eq_true rfl) (Nat.le_of_ble_eq_true rfl) (show (k + kk129) + bc129 ≤ MC by omega) (show (n + nn129) + bs129 ≤ MS by omega) (xt_w1 hB.1 m_36d1dd5e) (xt_cdOf hB.1 m_36d1dd5e) (hts _ m_d5ed7bed) hB hR hS hA (fun vv h132 bc133 bs133 kk133 nn133 H locs hk133 hn133 hq hEh132 hR hS => ?_) (fun XX ax h132 bc133 bs133 kk133 nn133 H locs hk133 hn133 hq hEh132 hex hR hS => ?_)
          · obtain ⟨r133, rfl, hw⟩ := hq
            have hw := hw hEh132
            have hE := hE.tr hEh132
            refine W.eq (g2 := F0 m 651 ls [.int r133]) rfl ?_
            refine lv_istore hx hb (xb_d D_Law_law 345 rfl) hl (by decide) rfl (fun ls hl => ?_)
            have hl : lv_has ls 8 [(6, .int r133), (5, .int r129), (0, .ref x0), (1, .ref x1), (2, .ref x2), (3, .ref x3), (4, .int x4)] := hl
            refine lv_aload_n hx hb (xb_d D_Law_law 346 rfl) rfl (lv_at hl 4 rfl) ?_
            have hk131 : xb_k h132 x2 = 9 := hEh132.k hk131
            refine xb_call0 (D := D) (A := A) (σ := σ) (h := h132) (d := 2) (maxL := 1) (rest := []) (av := [.ref x2]) (fun T hT X => by obtain ⟨cb9, ra9, rb9, rc9⟩ := xb_recv (ci := 8) hR rfl hk131 (by decide); exact xt_invV X hx hown (hts _ m_4e0e8e72) (hts _ m_e6bd7a2e) (hts _ m_a9e3d950) (xt_sigOf (hts _ m_6c6d2858)) nm_M_thrown (by rw [hT]; exact ra9) rb9 rc9 (g := F0 m 654 ls [.ref x2]) rfl (argsL := []) (rest := []) rfl rfl (by rw [hb]; exact (xb_d D_Law_law 347 rfl))) (ok_M_thrown l hfl D A σ x2 h132 _ hw) (hml.trans hl.1.symm) (by rw [hb]; exact (xb_d D_Law_law 347 rfl)) (Nat.le_of_ble_eq_true rfl) (Nat.le_of_ble_eq_true rfl) (Nat.le_of_ble_eq_true rfl) (show ((k + kk129) + kk133) ≤ MC by omega) (show ((n + nn129) + nn133) ≤ MS by omega) (xt_w1 hB.1 m_6c6d2858) (xt_cdOf hB.1 m_6c6d2858) (hts _ m_d5ed7bed) hB hR hS hA (fun vv h134 H locs hq hEh134 hR hS => ?_)
            obtain ⟨r135, rfl, hw⟩ := hq
            have hw := hw hEh134
            have hE := hE.tr hEh134
            refine W.eq (g2 := F0 m 657 ls [.int r135]) rfl ?_
            refine lv_iload hx hb (xb_d D_Law_law 348 rfl) (lv_at hl 1 rfl) ?_
            refine lv_icmp_eq (tgt := 664) hx hb (xb_d D_Law_law 349 rfl) rfl (fun hc136 => ?_) (fun hc136 => ?_)
            · have hw := hw.1 hc136
              refine lv_iload hx hb (xb_d D_Law_law 352 rfl) (lv_at hl 1 rfl) ?_
              refine lv_if_ne (tgt := 681) hx hb (xb_d D_Law_law 353 rfl) rfl (fun hc137 => ?_) (fun hc137 => ?_)
              · have hw := hw.1 hc137
                exact am_Law_law_L681 l hfl D A σ L xs MC MS h0 Qr (w2_Law_law_L23 σ L xs Qr n9) ih x0 x1 x2 x3 x4 h134 bc133 bs133 hw p e s m args below meth c hC hX9 H locs ls ((k + kk129) + kk133) ((n + nn129) + nn133) hE (lv_sub hl [2, 3, 4, 5, 6] rfl) hR hS (by omega) (by omega)
              · have hw := hw.2 hc137
                refine lv_aload_n hx hb (xb_d D_Law_law 354 rfl) rfl (lv_at hl 5 rfl) ?_
                refine lv_iconst (v := 0) hx hb (xb_d D_Law_law 355 rfl) (by decide) ?_
                obtain ⟨hk139, hw⟩ := hw
                obtain ⟨hi138, hw⟩ := hw
                refine xb_lald hx hb hR hk139 hi138 (xb_d D_Law_law 356 rfl) ?_
                refine xt_numl (y := (xb_l h134 x3 0)) (congrArg (xb_l h134 x3) (by decide : (0 : Int32).toNatClampNeg = 0)) ?_
                refine lv_iload hx hb (xb_d D_Law_law 357 rfl) (lv_at hl 0 rfl) ?_
                refine lv_i2l hx hb (xb_d D_Law_law 358 rfl) rfl ?_
                refine xb_lc_eq (tgt := 681) hx hb (xb_d D_Law_law 359 rfl) (xb_d D_Law_law 360 rfl) rfl (fun hc140 => ?_) (fun hc140 => ?_)
                · have hw := hw.1 hc140
                  exact am_Law_law_L681 l hfl D A σ L xs MC MS h0 Qr (w2_Law_law_L23 σ L xs Qr n9) ih x0 x1 x2 x3 x4 h134 bc133 bs133 hw p e s m args below meth c hC hX9 H locs ls ((k + kk129) + kk133) ((n + nn129) + nn133) hE (lv_sub hl [2, 3, 4, 5, 6] rfl) hR hS (by omega) (by omega)
                · have hw := hw.2 hc140
                  refine lv_iconst (v := 0) hx hb (xb_d D_Law_law 361 rfl) (by decide) ?_
                  exact xb_zret bc133 bs133 hx hb hr hlocks (show ((k + kk129) + kk133) + bc133 ≤ MC by omega) (show ((n + nn129) + nn133) + bs133 ≤ MS by omega) (by decide) hE hR hS (xb_d D_Law_law 362 rfl) hw
            · have hw := hw.2 hc136
              refine lv_iconst (v := 0) hx hb (xb_d D_Law_law 350 rfl) (by decide) ?_
              exact xb_zret bc133 bs133 hx hb hr hlocks (show ((k + kk129) + kk133) + bc133 ≤ MC by omega) (show ((n + nn129) + nn133) + bs133 ≤ MS by omega) (by decide) hE hR hS (xb_d D_Law_law 351 rfl) hw
          · exact False.elim hq
        · exact False.elim hq
      have hw := hw.2
      by_cases hc141 : ((xs (Int32.toNatClampNeg x4)) &&& 31) = 9
      · have hw := hw.1 hc141
        refine xt_numi hc141 ?_
        refine lv_tableIn (off := 644) (tgt := 684) hx hb (xb_d D_Law_law 24 rfl) (by decide +kernel) (by decide +kernel) (by decide +kernel) (by decide) ?_
        refine lv_aload_n hx hb (xb_d D_Law_law 364 rfl) rfl (lv_at hl 1 rfl) ?_
        refine lv_aload_n hx hb (xb_d D_Law_law 365 rfl) rfl (lv_at hl 0 rfl) ?_
        refine lv_iload hx hb (xb_d D_Law_law 366 rfl) (lv_at hl 4 rfl) ?_
        refine lv_iconst (v := 1) hx hb (xb_d D_Law_law 367 rfl) (by decide) ?_
        refine lv_iadd hx hb (xb_d D_Law_law 368 rfl) ?_
        obtain ⟨hi142, hw⟩ := hw
        refine va_sld hx hb hX hbl hbA hS hi142 (xb_d D_Law_law 369 rfl) ?_
        refine lv_aload_n hx hb (xb_d D_Law_law 370 rfl) rfl (lv_at hl 0 rfl) ?_
        refine lv_iload hx hb (xb_d D_Law_law 371 rfl) (lv_at hl 4 rfl) ?_
        refine lv_iconst (v := 2) hx hb (xb_d D_Law_law 372 rfl) (by decide) ?_
        refine lv_iadd hx hb (xb_d D_Law_law 373 rfl) ?_
        obtain ⟨hi143, hw⟩ := hw
        refine va_sld hx hb hX hbl hbA hS hi143 (xb_d D_Law_law 374 rfl) ?_
        refine lv_aload_n hx hb (xb_d D_Law_law 375 rfl) rfl (lv_at hl 0 rfl) ?_
        refine lv_iload hx hb (xb_d D_Law_law 376 rfl) (lv_at hl 4 rfl) ?_
        refine lv_iconst (v := 3) hx hb (xb_d D_Law_law 377 rfl) (by decide) ?_
        refine lv_iadd hx hb (xb_d D_Law_law 378 rfl) ?_
        obtain ⟨hi144, hw⟩ := hw
        refine va_sld hx hb hX hbl hbA hS hi144 (xb_d D_Law_law 379 rfl) ?_
        refine lv_aload_n hx hb (xb_d D_Law_law 380 rfl) rfl (lv_at hl 3 rfl) ?_
        refine xb_call (D := D) (A := A) (σ := σ) (h := h) (d := 5) (mc := bc) (ms := bs) (maxL := 6) (rest := []) (av := [.ref x1, .int (xs (Int32.toNatClampNeg (x4 + 1))), .int (xs (Int32.toNatClampNeg (x4 + 2))), .int (xs (Int32.toNatClampNeg (x4 + 3))), .ref x3]) (fun T hT X => xt_invS X hx hown (hts _ m_f499567a) (hts _ m_a4d922a3) (hts _ m_6445b362) (xt_sgSH (hts _ m_29cb7ca8)).1 (xt_sgSH (hts _ m_29cb7ca8)).2 nm_Law_exported (g := F0 m 704 ls [.ref x3, .int (xs (Int32.toNatClampNeg (x4 + 3))), .int (xs (Int32.toNatClampNeg (x4 + 2))), .int (xs (Int32.toNatClampNeg (x4 + 1))), .ref x1]) rfl (argsL := [.ref x1, .int (xs (Int32.toNatClampNeg (x4 + 1))), .int (xs (Int32.toNatClampNeg (x4 + 2))), .int (xs (Int32.toNatClampNeg (x4 + 3))), .ref x3]) (rest := []) rfl rfl (by rw [hb]; exact (xb_d D_Law_law 381 rfl))) (ok_Law_exported l hfl D A σ x1 (xs (Int32.toNatClampNeg (x4 + 1))) (xs (Int32.toNatClampNeg (x4 + 2))) (xs (Int32.toNatClampNeg (x4 + 3))) x3 h bc bs _ hw) (hml.trans hl.1.symm) (by rw [hb]; exact (xb_d D_Law_law 381 rfl)) (Nat.le_of_ble_eq_true rfl) (Nat.le_of_ble_eq_true rfl) (Nat.le_of_ble_eq_true rfl) (show k + bc ≤ MC by omega) (show n + bs ≤ MS by omega) (xt_w1 hB.1 m_29cb7ca8) (xt_cdOfH hB.1 m_29cb7ca8) (hts _ m_6445b362) hB hR hS hA (fun vv h145 bc146 bs146 kk146 nn146 H locs hk146 hn146 hq hEh145 hR hS => ?_) (fun XX ax h145 bc146 bs146 kk146 nn146 H locs hk146 hn146 hq hEh145 hex hR hS => ?_)
        · obtain ⟨r146, rfl, hw⟩ := hq
          have hw := hw hEh145
          have hE := hE.tr hEh145
          refine W.eq (g2 := F0 m 707 ls [.int r146]) rfl ?_
          refine lv_istore hx hb (xb_d D_Law_law 382 rfl) hl (by decide) rfl (fun ls hl => ?_)
          have hl : lv_has ls 8 [(5, .int r146), (0, .ref x0), (1, .ref x1), (2, .ref x2), (3, .ref x3), (4, .int x4)] := hl
          refine lv_aload_n hx hb (xb_d D_Law_law 383 rfl) rfl (lv_at hl 3 rfl) ?_
          refine lv_aload_n hx hb (xb_d D_Law_law 384 rfl) rfl (lv_at hl 1 rfl) ?_
          refine lv_iload hx hb (xb_d D_Law_law 385 rfl) (lv_at hl 5 rfl) ?_
          refine lv_iconst (v := 1) hx hb (xb_d D_Law_law 386 rfl) (by decide) ?_
          refine lv_iadd hx hb (xb_d D_Law_law 387 rfl) ?_
          obtain ⟨hi147, hw⟩ := hw
          refine va_sld hx hb hX hbl hbA hS hi147 (xb_d D_Law_law 388 rfl) ?_
          refine lv_aload_n hx hb (xb_d D_Law_law 389 rfl) rfl (lv_at hl 1 rfl) ?_
          refine lv_iload hx hb (xb_d D_Law_law 390 rfl) (lv_at hl 5 rfl) ?_
          refine lv_iconst (v := 2) hx hb (xb_d D_Law_law 391 rfl) (by decide) ?_
          refine lv_iadd hx hb (xb_d D_Law_law 392 rfl) ?_
          obtain ⟨hi148, hw⟩ := hw
          refine va_sld hx hb hX hbl hbA hS hi148 (xb_d D_Law_law 393 rfl) ?_
          refine lv_aload_n hx hb (xb_d D_Law_law 394 rfl) rfl (lv_at hl 1 rfl) ?_
          refine lv_iload hx hb (xb_d D_Law_law 395 rfl) (lv_at hl 5 rfl) ?_
          refine lv_iconst (v := 3) hx hb (xb_d D_Law_law 396 rfl) (by decide) ?_
          refine lv_iadd hx hb (xb_d D_Law_law 397 rfl) ?_
          obtain ⟨hi149, hw⟩ := hw
          refine va_sld hx hb hX hbl hbA hS hi149 (xb_d D_Law_law 398 rfl) ?_
          obtain ⟨hk150, hw⟩ := hw
          refine xb_call0 (D := D) (A := A) (σ := σ) (h := h145) (d := 10) (maxL := 8) (rest := []) (av := [.ref x2, .int (xs (Int32.toNatClampNeg (x4 + 1))), .int (xs (Int32.toNatClampNeg (x4 + 2))), .int (xs (Int32.toNatClampNeg (x4 + 3)))]) (fun T hT X => by obtain ⟨cb9, ra9, rb9, rc9⟩ := xb_recv (ci := 8) hR rfl hk150 (by decide); exact xt_invV X hx hown (hts _ m_12df9324) (hts _ m_d9b6b786) (hts _ m_68b1a8cd) (xt_sigOf (hts _ m_e845ad78)) nm_M_exported (by rw [hT]; exact ra9) rb9 rc9 (g := F0 m 728 ls [.int (xs (Int32.toNatClampNeg (x4 + 3))), .int (xs (Int32.toNatClampNeg (x4 + 2))), .int (xs (Int32.toNatClampNeg (x4 + 1))), .ref x2]) rfl (argsL := [.int (xs (Int32.toNatClampNeg (x4 + 1))), .int (xs (Int32.toNatClampNeg (x4 + 2))), .int (xs (Int32.toNatClampNeg (x4 + 3)))]) (rest := []) rfl rfl (by rw [hb]; exact (xb_d D_Law_law 399 rfl))) (ok_M_exported l hfl D A σ x2 (xs (Int32.toNatClampNeg (x4 + 1))) (xs (Int32.toNatClampNeg (x4 + 2))) (xs (Int32.toNatClampNeg (x4 + 3))) h145 _ hw) (hml.trans hl.1.symm) (by rw [hb]; exact (xb_d D_Law_law 399 rfl)) (Nat.le_of_ble_eq_true rfl) (Nat.le_of_ble_eq_true rfl) (Nat.le_of_ble_eq_true rfl) (show (k + kk146) ≤ MC by omega) (show (n + nn146) ≤ MS by omega) (xt_w1 hB.1 m_e845ad78) (xt_cdOf hB.1 m_e845ad78) (hts _ m_d5ed7bed) hB hR hS hA (fun vv h151 H locs hq hEh151 hR hS => ?_)
          obtain ⟨r152, rfl, hw⟩ := hq
          have hw := hw hEh151
          have hE := hE.tr hEh151
          refine W.eq (g2 := F0 m 731 ls [.int r152]) rfl ?_
          refine lv_istore hx hb (xb_d D_Law_law 400 rfl) hl (by decide) rfl (fun ls hl => ?_)
          have hl : lv_has ls 8 [(6, .int r152), (5, .int r146), (0, .ref x0), (1, .ref x1), (2, .ref x2), (3, .ref x3), (4, .int x4)] := hl
          refine lv_aload_n hx hb (xb_d D_Law_law 401 rfl) rfl (lv_at hl 4 rfl) ?_
          have hk150 : xb_k h151 x2 = 9 := hEh151.k hk150
          refine xb_call0 (D := D) (A := A) (σ := σ) (h := h151) (d := 2) (maxL := 1) (rest := []) (av := [.ref x2]) (fun T hT X => by obtain ⟨cb9, ra9, rb9, rc9⟩ := xb_recv (ci := 8) hR rfl hk150 (by decide); exact xt_invV X hx hown (hts _ m_4e0e8e72) (hts _ m_e6bd7a2e) (hts _ m_a9e3d950) (xt_sigOf (hts _ m_6c6d2858)) nm_M_thrown (by rw [hT]; exact ra9) rb9 rc9 (g := F0 m 734 ls [.ref x2]) rfl (argsL := []) (rest := []) rfl rfl (by rw [hb]; exact (xb_d D_Law_law 402 rfl))) (ok_M_thrown l hfl D A σ x2 h151 _ hw) (hml.trans hl.1.symm) (by rw [hb]; exact (xb_d D_Law_law 402 rfl)) (Nat.le_of_ble_eq_true rfl) (Nat.le_of_ble_eq_true rfl) (Nat.le_of_ble_eq_true rfl) (show (k + kk146) ≤ MC by omega) (show (n + nn146) ≤ MS by omega) (xt_w1 hB.1 m_6c6d2858) (xt_cdOf hB.1 m_6c6d2858) (hts _ m_d5ed7bed) hB hR hS hA (fun vv h153 H locs hq hEh153 hR hS => ?_)
          obtain ⟨r154, rfl, hw⟩ := hq
          have hw := hw hEh153
          have hE := hE.tr hEh153
          refine W.eq (g2 := F0 m 737 ls [.int r154]) rfl ?_
          refine lv_iload hx hb (xb_d D_Law_law 403 rfl) (lv_at hl 1 rfl) ?_
          refine lv_icmp_eq (tgt := 744) hx hb (xb_d D_Law_law 404 rfl) rfl (fun hc155 => ?_) (fun hc155 => ?_)
          · have hw := hw.1 hc155
            refine lv_iload hx hb (xb_d D_Law_law 407 rfl) (lv_at hl 1 rfl) ?_
            refine lv_if_ne (tgt := 761) hx hb (xb_d D_Law_law 408 rfl) rfl (fun hc156 => ?_) (fun hc156 => ?_)
            · have hw := hw.1 hc156
              exact am_Law_law_L761 l hfl D A σ L xs MC MS h0 Qr (w2_Law_law_L23 σ L xs Qr n9) ih x0 x1 x2 x3 x4 h153 bc146 bs146 hw p e s m args below meth c hC hX9 H locs ls (k + kk146) (n + nn146) hE (lv_sub hl [2, 3, 4, 5, 6] rfl) hR hS (by omega) (by omega)
            · have hw := hw.2 hc156
              refine lv_aload_n hx hb (xb_d D_Law_law 409 rfl) rfl (lv_at hl 5 rfl) ?_
              refine lv_iconst (v := 0) hx hb (xb_d D_Law_law 410 rfl) (by decide) ?_
              obtain ⟨hk158, hw⟩ := hw
              obtain ⟨hi157, hw⟩ := hw
              refine xb_lald hx hb hR hk158 hi157 (xb_d D_Law_law 411 rfl) ?_
              refine xt_numl (y := (xb_l h153 x3 0)) (congrArg (xb_l h153 x3) (by decide : (0 : Int32).toNatClampNeg = 0)) ?_
              refine lv_iload hx hb (xb_d D_Law_law 412 rfl) (lv_at hl 0 rfl) ?_
              refine lv_i2l hx hb (xb_d D_Law_law 413 rfl) rfl ?_
              refine xb_lc_eq (tgt := 761) hx hb (xb_d D_Law_law 414 rfl) (xb_d D_Law_law 415 rfl) rfl (fun hc159 => ?_) (fun hc159 => ?_)
              · have hw := hw.1 hc159
                exact am_Law_law_L761 l hfl D A σ L xs MC MS h0 Qr (w2_Law_law_L23 σ L xs Qr n9) ih x0 x1 x2 x3 x4 h153 bc146 bs146 hw p e s m args below meth c hC hX9 H locs ls (k + kk146) (n + nn146) hE (lv_sub hl [2, 3, 4, 5, 6] rfl) hR hS (by omega) (by omega)
              · have hw := hw.2 hc159
                refine lv_iconst (v := 0) hx hb (xb_d D_Law_law 416 rfl) (by decide) ?_
                exact xb_zret bc146 bs146 hx hb hr hlocks (show (k + kk146) + bc146 ≤ MC by omega) (show (n + nn146) + bs146 ≤ MS by omega) (by decide) hE hR hS (xb_d D_Law_law 417 rfl) hw
          · have hw := hw.2 hc155
            refine lv_iconst (v := 0) hx hb (xb_d D_Law_law 405 rfl) (by decide) ?_
            exact xb_zret bc146 bs146 hx hb hr hlocks (show (k + kk146) + bc146 ≤ MC by omega) (show (n + nn146) + bs146 ≤ MS by omega) (by decide) hE hR hS (xb_d D_Law_law 406 rfl) hw
        · exact False.elim hq
      have hw := hw.2
      by_cases hc160 : ((xs (Int32.toNatClampNeg x4)) &&& 31) = 10
      · have hw := hw.1 hc160
        refine xt_numi hc160 ?_
        refine lv_tableIn (off := 724) (tgt := 764) hx hb (xb_d D_Law_law 24 rfl) (by decide +kernel) (by decide +kernel) (by decide +kernel) (by decide) ?_
        refine lv_aload_n hx hb (xb_d D_Law_law 419 rfl) rfl (lv_at hl 1 rfl) ?_
        refine lv_aload_n hx hb (xb_d D_Law_law 420 rfl) rfl (lv_at hl 0 rfl) ?_
        refine lv_iload hx hb (xb_d D_Law_law 421 rfl) (lv_at hl 4 rfl) ?_
        refine lv_iconst (v := 1) hx hb (xb_d D_Law_law 422 rfl) (by decide) ?_
        refine lv_iadd hx hb (xb_d D_Law_law 423 rfl) ?_
        obtain ⟨hi161, hw⟩ := hw
        refine va_sld hx hb hX hbl hbA hS hi161 (xb_d D_Law_law 424 rfl) ?_
        refine lv_i2l hx hb (xb_d D_Law_law 425 rfl) rfl ?_
        refine lv_bipush (v := 32) hx hb (xb_d D_Law_law 426 rfl) (by decide) ?_
        refine lv_lshl (v := (xb_lshl (Int32.toInt64 (xs (Int32.toNatClampNeg (x4 + 1)))) 32)) hx hb (xb_d D_Law_law 427 rfl) rfl ?_
        refine lv_aload_n hx hb (xb_d D_Law_law 428 rfl) rfl (lv_at hl 0 rfl) ?_
        refine lv_iload hx hb (xb_d D_Law_law 429 rfl) (lv_at hl 4 rfl) ?_
        refine lv_iconst (v := 2) hx hb (xb_d D_Law_law 430 rfl) (by decide) ?_
        refine lv_iadd hx hb (xb_d D_Law_law 431 rfl) ?_
        obtain ⟨hi162, hw⟩ := hw
        refine va_sld hx hb hX hbl hbA hS hi162 (xb_d D_Law_law 432 rfl) ?_
        refine lv_i2l hx hb (xb_d D_Law_law 433 rfl) rfl ?_
        refine lv_ldc2 (v := 4294967295) hx hb hown (hts _ m_1afdcc86) (xb_d D_Law_law 434 rfl) ?_
        refine lv_land hx hb (xb_d D_Law_law 435 rfl) ?_
        refine lv_lor hx hb (xb_d D_Law_law 436 rfl) ?_
        refine lv_aload_n hx hb (xb_d D_Law_law 437 rfl) rfl (lv_at hl 3 rfl) ?_
        refine xb_call (D := D) (A := A) (σ := σ) (h := h) (d := 6) (mc := bc) (ms := bs) (maxL := 5) (rest := []) (av := [.ref x1, .long ((xb_lshl (Int32.toInt64 (xs (Int32.toNatClampNeg (x4 + 1)))) 32) ||| ((Int32.toInt64 (xs (Int32.toNatClampNeg (x4 + 2)))) &&& 4294967295)), .ref x3]) (fun T hT X => xt_invS X hx hown (hts _ m_9b7c456e) (hts _ m_405e2d6b) (hts _ m_6445b362) (xt_sgSH (hts _ m_80f64de9)).1 (xt_sgSH (hts _ m_80f64de9)).2 nm_Law_push (g := F0 m 788 ls [.ref x3, .long ((xb_lshl (Int32.toInt64 (xs (Int32.toNatClampNeg (x4 + 1)))) 32) ||| ((Int32.toInt64 (xs (Int32.toNatClampNeg (x4 + 2)))) &&& 4294967295)), .ref x1]) rfl (argsL := [.ref x1, .long ((xb_lshl (Int32.toInt64 (xs (Int32.toNatClampNeg (x4 + 1)))) 32) ||| ((Int32.toInt64 (xs (Int32.toNatClampNeg (x4 + 2)))) &&& 4294967295)), .ref x3]) (rest := []) rfl rfl (by rw [hb]; exact (xb_d D_Law_law 438 rfl))) (ok_Law_push l hfl D A σ x1 ((xb_lshl (Int32.toInt64 (xs (Int32.toNatClampNeg (x4 + 1)))) 32) ||| ((Int32.toInt64 (xs (Int32.toNatClampNeg (x4 + 2)))) &&& 4294967295)) x3 h bc bs _ hw) (hml.trans hl.1.symm) (by rw [hb]; exact (xb_d D_Law_law 438 rfl)) (Nat.le_of_ble_eq_true rfl) (Nat.le_of_ble_eq_true rfl) (Nat.le_of_ble_eq_true rfl) (show k + bc ≤ MC by omega) (show n + bs ≤ MS by omega) (xt_w1 hB.1 m_80f64de9) (xt_cdOfH hB.1 m_80f64de9) (hts _ m_6445b362) hB hR hS hA (fun vv h163 bc164 bs164 kk164 nn164 H locs hk164 hn164 hq hEh163 hR hS => ?_) (fun XX ax h163 bc164 bs164 kk164 nn164 H locs hk164 hn164 hq hEh163 hex hR hS => ?_)
        · obtain ⟨r164, rfl, hw⟩ := hq
          have hw := hw hEh163
          have hE := hE.tr hEh163
          refine W.eq (g2 := F0 m 791 ls [.int r164]) rfl ?_
          refine lv_istore hx hb (xb_d D_Law_law 439 rfl) hl (by decide) rfl (fun ls hl => ?_)
          have hl : lv_has ls 8 [(5, .int r164), (0, .ref x0), (1, .ref x1), (2, .ref x2), (3, .ref x3), (4, .int x4)] := hl
          refine lv_aload_n hx hb (xb_d D_Law_law 440 rfl) rfl (lv_at hl 3 rfl) ?_
          refine lv_aload_n hx hb (xb_d D_Law_law 441 rfl) rfl (lv_at hl 1 rfl) ?_
          refine lv_iload hx hb (xb_d D_Law_law 442 rfl) (lv_at hl 5 rfl) ?_
          refine lv_iconst (v := 1) hx hb (xb_d D_Law_law 443 rfl) (by decide) ?_
          refine lv_iadd hx hb (xb_d D_Law_law 444 rfl) ?_
          obtain ⟨hi165, hw⟩ := hw
          refine va_sld hx hb hX hbl hbA hS hi165 (xb_d D_Law_law 445 rfl) ?_
          refine lv_i2l hx hb (xb_d D_Law_law 446 rfl) rfl ?_
          refine lv_bipush (v := 32) hx hb (xb_d D_Law_law 447 rfl) (by decide) ?_
          refine lv_lshl (v := (xb_lshl (Int32.toInt64 (xs (Int32.toNatClampNeg (x4 + 1)))) 32)) hx hb (xb_d D_Law_law 448 rfl) rfl ?_
          refine lv_aload_n hx hb (xb_d D_Law_law 449 rfl) rfl (lv_at hl 1 rfl) ?_
          refine lv_iload hx hb (xb_d D_Law_law 450 rfl) (lv_at hl 5 rfl) ?_
          refine lv_iconst (v := 2) hx hb (xb_d D_Law_law 451 rfl) (by decide) ?_
          refine lv_iadd hx hb (xb_d D_Law_law 452 rfl) ?_
          obtain ⟨hi166, hw⟩ := hw
          refine va_sld hx hb hX hbl hbA hS hi166 (xb_d D_Law_law 453 rfl) ?_
          refine lv_i2l hx hb (xb_d D_Law_law 454 rfl) rfl ?_
          refine lv_ldc2 (v := 4294967295) hx hb hown (hts _ m_1afdcc86) (xb_d D_Law_law 455 rfl) ?_
          refine lv_land hx hb (xb_d D_Law_law 456 rfl) ?_
          refine lv_lor hx hb (xb_d D_Law_law 457 rfl) ?_
          obtain ⟨hk167, hw⟩ := hw
          refine xb_call0 (D := D) (A := A) (σ := σ) (h := h163) (d := 2) (maxL := 3) (rest := []) (av := [.ref x2, .long ((xb_lshl (Int32.toInt64 (xs (Int32.toNatClampNeg (x4 + 1)))) 32) ||| ((Int32.toInt64 (xs (Int32.toNatClampNeg (x4 + 2)))) &&& 4294967295))]) (fun T hT X => by obtain ⟨cb9, ra9, rb9, rc9⟩ := xb_recv (ci := 8) hR rfl hk167 (by decide); exact xt_invV X hx hown (hts _ m_97cf9271) (hts _ m_e2ffa201) (hts _ m_41a99f61) (xt_sigOf (hts _ m_ebcc62d2)) nm_M_push (by rw [hT]; exact ra9) rb9 rc9 (g := F0 m 816 ls [.long ((xb_lshl (Int32.toInt64 (xs (Int32.toNatClampNeg (x4 + 1)))) 32) ||| ((Int32.toInt64 (xs (Int32.toNatClampNeg (x4 + 2)))) &&& 4294967295)), .ref x2]) rfl (argsL := [.long ((xb_lshl (Int32.toInt64 (xs (Int32.toNatClampNeg (x4 + 1)))) 32) ||| ((Int32.toInt64 (xs (Int32.toNatClampNeg (x4 + 2)))) &&& 4294967295))]) (rest := []) rfl rfl (by rw [hb]; exact (xb_d D_Law_law 458 rfl))) (ok_M_push l hfl D A σ x2 ((xb_lshl (Int32.toInt64 (xs (Int32.toNatClampNeg (x4 + 1)))) 32) ||| ((Int32.toInt64 (xs (Int32.toNatClampNeg (x4 + 2)))) &&& 4294967295)) h163 _ hw) (hml.trans hl.1.symm) (by rw [hb]; exact (xb_d D_Law_law 458 rfl)) (Nat.le_of_ble_eq_true rfl) (Nat.le_of_ble_eq_true rfl) (Nat.le_of_ble_eq_true rfl) (show (k + kk164) ≤ MC by omega) (show (n + nn164) ≤ MS by omega) (xt_w1 hB.1 m_ebcc62d2) (xt_cdOf hB.1 m_ebcc62d2) (hts _ m_d5ed7bed) hB hR hS hA (fun vv h168 H locs hq hEh168 hR hS => ?_)
          obtain ⟨r169, rfl, hw⟩ := hq
          have hw := hw hEh168
          have hE := hE.tr hEh168
          refine W.eq (g2 := F0 m 819 ls [.int r169]) rfl ?_
          refine lv_istore hx hb (xb_d D_Law_law 459 rfl) hl (by decide) rfl (fun ls hl => ?_)
          have hl : lv_has ls 8 [(6, .int r169), (5, .int r164), (0, .ref x0), (1, .ref x1), (2, .ref x2), (3, .ref x3), (4, .int x4)] := hl
          refine lv_aload_n hx hb (xb_d D_Law_law 460 rfl) rfl (lv_at hl 4 rfl) ?_
          have hk167 : xb_k h168 x2 = 9 := hEh168.k hk167
          refine xb_call0 (D := D) (A := A) (σ := σ) (h := h168) (d := 2) (maxL := 1) (rest := []) (av := [.ref x2]) (fun T hT X => by obtain ⟨cb9, ra9, rb9, rc9⟩ := xb_recv (ci := 8) hR rfl hk167 (by decide); exact xt_invV X hx hown (hts _ m_4e0e8e72) (hts _ m_e6bd7a2e) (hts _ m_a9e3d950) (xt_sigOf (hts _ m_6c6d2858)) nm_M_thrown (by rw [hT]; exact ra9) rb9 rc9 (g := F0 m 822 ls [.ref x2]) rfl (argsL := []) (rest := []) rfl rfl (by rw [hb]; exact (xb_d D_Law_law 461 rfl))) (ok_M_thrown l hfl D A σ x2 h168 _ hw) (hml.trans hl.1.symm) (by rw [hb]; exact (xb_d D_Law_law 461 rfl)) (Nat.le_of_ble_eq_true rfl) (Nat.le_of_ble_eq_true rfl) (Nat.le_of_ble_eq_true rfl) (show (k + kk164) ≤ MC by omega) (show (n + nn164) ≤ MS by omega) (xt_w1 hB.1 m_6c6d2858) (xt_cdOf hB.1 m_6c6d2858) (hts _ m_d5ed7bed) hB hR hS hA (fun vv h170 H locs hq hEh170 hR hS => ?_)
          obtain ⟨r171, rfl, hw⟩ := hq
          have hw := hw hEh170
          have hE := hE.tr hEh170
          refine W.eq (g2 := F0 m 825 ls [.int r171]) rfl ?_
          refine lv_iload hx hb (xb_d D_Law_law 462 rfl) (lv_at hl 1 rfl) ?_
          refine lv_icmp_eq (tgt := 832) hx hb (xb_d D_Law_law 463 rfl) rfl (fun hc172 => ?_) (fun hc172 => ?_)
          · have hw := hw.1 hc172
            refine lv_iload hx hb (xb_d D_Law_law 466 rfl) (lv_at hl 1 rfl) ?_
            refine lv_if_ne (tgt := 849) hx hb (xb_d D_Law_law 467 rfl) rfl (fun hc173 => ?_) (fun hc173 => ?_)
            · have hw := hw.1 hc173
              exact am_Law_law_L849 l hfl D A σ L xs MC MS h0 Qr (w2_Law_law_L23 σ L xs Qr n9) ih x0 x1 x2 x3 x4 h170 bc164 bs164 hw p e s m args below meth c hC hX9 H locs ls (k + kk164) (n + nn164) hE (lv_sub hl [2, 3, 4, 5, 6] rfl) hR hS (by omega) (by omega)
            · have hw := hw.2 hc173
              refine lv_aload_n hx hb (xb_d D_Law_law 468 rfl) rfl (lv_at hl 5 rfl) ?_
              refine lv_iconst (v := 0) hx hb (xb_d D_Law_law 469 rfl) (by decide) ?_
              obtain ⟨hk175, hw⟩ := hw
              obtain ⟨hi174, hw⟩ := hw
              refine xb_lald hx hb hR hk175 hi174 (xb_d D_Law_law 470 rfl) ?_
              refine xt_numl (y := (xb_l h170 x3 0)) (congrArg (xb_l h170 x3) (by decide : (0 : Int32).toNatClampNeg = 0)) ?_
              refine lv_iload hx hb (xb_d D_Law_law 471 rfl) (lv_at hl 0 rfl) ?_
              refine lv_i2l hx hb (xb_d D_Law_law 472 rfl) rfl ?_
              refine xb_lc_eq (tgt := 849) hx hb (xb_d D_Law_law 473 rfl) (xb_d D_Law_law 474 rfl) rfl (fun hc176 => ?_) (fun hc176 => ?_)
              · have hw := hw.1 hc176
                exact am_Law_law_L849 l hfl D A σ L xs MC MS h0 Qr (w2_Law_law_L23 σ L xs Qr n9) ih x0 x1 x2 x3 x4 h170 bc164 bs164 hw p e s m args below meth c hC hX9 H locs ls (k + kk164) (n + nn164) hE (lv_sub hl [2, 3, 4, 5, 6] rfl) hR hS (by omega) (by omega)
              · have hw := hw.2 hc176
                refine lv_iconst (v := 0) hx hb (xb_d D_Law_law 475 rfl) (by decide) ?_
                exact xb_zret bc164 bs164 hx hb hr hlocks (show (k + kk164) + bc164 ≤ MC by omega) (show (n + nn164) + bs164 ≤ MS by omega) (by decide) hE hR hS (xb_d D_Law_law 476 rfl) hw
          · have hw := hw.2 hc172
            refine lv_iconst (v := 0) hx hb (xb_d D_Law_law 464 rfl) (by decide) ?_
            exact xb_zret bc164 bs164 hx hb hr hlocks (show (k + kk164) + bc164 ≤ MC by omega) (show (n + nn164) + bs164 ≤ MS by omega) (by decide) hE hR hS (xb_d D_Law_law 465 rfl) hw
        · exact False.elim hq
      have hw := hw.2
      by_cases hc177 : ((xs (Int32.toNatClampNeg x4)) &&& 31) = 11
      · have hw := hw.1 hc177
        refine xt_numi hc177 ?_
        refine lv_tableIn (off := 812) (tgt := 852) hx hb (xb_d D_Law_law 24 rfl) (by decide +kernel) (by decide +kernel) (by decide +kernel) (by decide) ?_
        refine lv_aload_n hx hb (xb_d D_Law_law 478 rfl) rfl (lv_at hl 1 rfl) ?_
        refine lv_aload_n hx hb (xb_d D_Law_law 479 rfl) rfl (lv_at hl 0 rfl) ?_
        refine lv_iload hx hb (xb_d D_Law_law 480 rfl) (lv_at hl 4 rfl) ?_
        refine lv_iconst (v := 1) hx hb (xb_d D_Law_law 481 rfl) (by decide) ?_
        refine lv_iadd hx hb (xb_d D_Law_law 482 rfl) ?_
        obtain ⟨hi178, hw⟩ := hw
        refine va_sld hx hb hX hbl hbA hS hi178 (xb_d D_Law_law 483 rfl) ?_
        refine lv_aload_n hx hb (xb_d D_Law_law 484 rfl) rfl (lv_at hl 0 rfl) ?_
        refine lv_iload hx hb (xb_d D_Law_law 485 rfl) (lv_at hl 4 rfl) ?_
        refine lv_iconst (v := 2) hx hb (xb_d D_Law_law 486 rfl) (by decide) ?_
        refine lv_iadd hx hb (xb_d D_Law_law 487 rfl) ?_
        obtain ⟨hi179, hw⟩ := hw
        refine va_sld hx hb hX hbl hbA hS hi179 (xb_d D_Law_law 488 rfl) ?_
        refine xb_call (D := D) (A := A) (σ := σ) (h := h) (d := 6) (mc := bc) (ms := bs) (maxL := 4) (rest := []) (av := [.ref x1, .int (xs (Int32.toNatClampNeg (x4 + 1))), .int (xs (Int32.toNatClampNeg (x4 + 2)))]) (fun T hT X => xt_invS X hx hown (hts _ m_139ca76e) (hts _ m_e3f01959) (hts _ m_6445b362) (xt_sgSH (hts _ m_a5134c6d)).1 (xt_sgSH (hts _ m_a5134c6d)).2 nm_Law_invoke (g := F0 m 865 ls [.int (xs (Int32.toNatClampNeg (x4 + 2))), .int (xs (Int32.toNatClampNeg (x4 + 1))), .ref x1]) rfl (argsL := [.ref x1, .int (xs (Int32.toNatClampNeg (x4 + 1))), .int (xs (Int32.toNatClampNeg (x4 + 2)))]) (rest := []) rfl rfl (by rw [hb]; exact (xb_d D_Law_law 489 rfl))) (ok_Law_invoke l hfl D A σ x1 (xs (Int32.toNatClampNeg (x4 + 1))) (xs (Int32.toNatClampNeg (x4 + 2))) h bc bs _ hw) (hml.trans hl.1.symm) (by rw [hb]; exact (xb_d D_Law_law 489 rfl)) (Nat.le_of_ble_eq_true rfl) (Nat.le_of_ble_eq_true rfl) (Nat.le_of_ble_eq_true rfl) (show k + bc ≤ MC by omega) (show n + bs ≤ MS by omega) (xt_w1 hB.1 m_a5134c6d) (xt_cdOfH hB.1 m_a5134c6d) (hts _ m_6445b362) hB hR hS hA (fun vv h180 bc181 bs181 kk181 nn181 H locs hk181 hn181 hq hEh180 hR hS => ?_) (fun XX ax h180 bc181 bs181 kk181 nn181 H locs hk181 hn181 hq hEh180 hex hR hS => ?_)
        · obtain ⟨r181, rfl, hw⟩ := hq
          have hw := hw hEh180
          have hE := hE.tr hEh180
          refine W.eq (g2 := F0 m 868 ls [.int r181]) rfl ?_
          refine lv_istore hx hb (xb_d D_Law_law 490 rfl) hl (by decide) rfl (fun ls hl => ?_)
          have hl : lv_has ls 8 [(5, .int r181), (0, .ref x0), (1, .ref x1), (2, .ref x2), (3, .ref x3), (4, .int x4)] := hl
          refine lv_aload_n hx hb (xb_d D_Law_law 491 rfl) rfl (lv_at hl 3 rfl) ?_
          refine lv_aload_n hx hb (xb_d D_Law_law 492 rfl) rfl (lv_at hl 1 rfl) ?_
          refine lv_iload hx hb (xb_d D_Law_law 493 rfl) (lv_at hl 5 rfl) ?_
          refine lv_iconst (v := 1) hx hb (xb_d D_Law_law 494 rfl) (by decide) ?_
          refine lv_iadd hx hb (xb_d D_Law_law 495 rfl) ?_
          obtain ⟨hi182, hw⟩ := hw
          refine va_sld hx hb hX hbl hbA hS hi182 (xb_d D_Law_law 496 rfl) ?_
          refine lv_aload_n hx hb (xb_d D_Law_law 497 rfl) rfl (lv_at hl 1 rfl) ?_
          refine lv_iload hx hb (xb_d D_Law_law 498 rfl) (lv_at hl 5 rfl) ?_
          refine lv_iconst (v := 2) hx hb (xb_d D_Law_law 499 rfl) (by decide) ?_
          refine lv_iadd hx hb (xb_d D_Law_law 500 rfl) ?_
          obtain ⟨hi183, hw⟩ := hw
          refine va_sld hx hb hX hbl hbA hS hi183 (xb_d D_Law_law 501 rfl) ?_
          obtain ⟨hk184, hw⟩ := hw
          refine xb_call0 (D := D) (A := A) (σ := σ) (h := h180) (d := 10) (maxL := 7) (rest := []) (av := [.ref x2, .int (xs (Int32.toNatClampNeg (x4 + 1))), .int (xs (Int32.toNatClampNeg (x4 + 2)))]) (fun T hT X => by obtain ⟨cb9, ra9, rb9, rc9⟩ := xb_recv (ci := 8) hR rfl hk184 (by decide); exact xt_invV X hx hown (hts _ m_097516a2) (hts _ m_acb842fe) (hts _ m_8f9d9e95) (xt_sigOf (hts _ m_da9af6b0)) nm_M_invoke (by rw [hT]; exact ra9) rb9 rc9 (g := F0 m 883 ls [.int (xs (Int32.toNatClampNeg (x4 + 2))), .int (xs (Int32.toNatClampNeg (x4 + 1))), .ref x2]) rfl (argsL := [.int (xs (Int32.toNatClampNeg (x4 + 1))), .int (xs (Int32.toNatClampNeg (x4 + 2)))]) (rest := []) rfl rfl (by rw [hb]; exact (xb_d D_Law_law 502 rfl))) (ok_M_invoke l hfl D A σ x2 (xs (Int32.toNatClampNeg (x4 + 1))) (xs (Int32.toNatClampNeg (x4 + 2))) h180 _ hw) (hml.trans hl.1.symm) (by rw [hb]; exact (xb_d D_Law_law 502 rfl)) (Nat.le_of_ble_eq_true rfl) (Nat.le_of_ble_eq_true rfl) (Nat.le_of_ble_eq_true rfl) (show (k + kk181) ≤ MC by omega) (show (n + nn181) ≤ MS by omega) (xt_w1 hB.1 m_da9af6b0) (xt_cdOf hB.1 m_da9af6b0) (hts _ m_d5ed7bed) hB hR hS hA (fun vv h185 H locs hq hEh185 hR hS => ?_)
          obtain ⟨rfl, hw⟩ := hq
          have hw := hw hEh185
          have hE := hE.tr hEh185
          refine W.eq (g2 := F0 m 886 ls []) rfl ?_
          refine lv_aload_n hx hb (xb_d D_Law_law 503 rfl) rfl (lv_at hl 3 rfl) ?_
          have hk184 : xb_k h185 x2 = 9 := hEh185.k hk184
          refine xb_call0 (D := D) (A := A) (σ := σ) (h := h185) (d := 2) (maxL := 1) (rest := []) (av := [.ref x2]) (fun T hT X => by obtain ⟨cb9, ra9, rb9, rc9⟩ := xb_recv (ci := 8) hR rfl hk184 (by decide); exact xt_invV X hx hown (hts _ m_4e0e8e72) (hts _ m_e6bd7a2e) (hts _ m_a9e3d950) (xt_sigOf (hts _ m_6c6d2858)) nm_M_thrown (by rw [hT]; exact ra9) rb9 rc9 (g := F0 m 887 ls [.ref x2]) rfl (argsL := []) (rest := []) rfl rfl (by rw [hb]; exact (xb_d D_Law_law 504 rfl))) (ok_M_thrown l hfl D A σ x2 h185 _ hw) (hml.trans hl.1.symm) (by rw [hb]; exact (xb_d D_Law_law 504 rfl)) (Nat.le_of_ble_eq_true rfl) (Nat.le_of_ble_eq_true rfl) (Nat.le_of_ble_eq_true rfl) (show (k + kk181) ≤ MC by omega) (show (n + nn181) ≤ MS by omega) (xt_w1 hB.1 m_6c6d2858) (xt_cdOf hB.1 m_6c6d2858) (hts _ m_d5ed7bed) hB hR hS hA (fun vv h187 H locs hq hEh187 hR hS => ?_)
          obtain ⟨r188, rfl, hw⟩ := hq
          have hw := hw hEh187
          have hE := hE.tr hEh187
          refine W.eq (g2 := F0 m 890 ls [.int r188]) rfl ?_
          refine lv_iload hx hb (xb_d D_Law_law 505 rfl) (lv_at hl 0 rfl) ?_
          refine lv_icmp_eq (tgt := 897) hx hb (xb_d D_Law_law 506 rfl) rfl (fun hc189 => ?_) (fun hc189 => ?_)
          · have hw := hw.1 hc189
            refine lv_goto (tgt := 1465) hx hb (xb_d D_Law_law 509 rfl) rfl ?_
            exact am_Law_law_L1465 l hfl D A σ L xs MC MS h0 Qr (w2_Law_law_L23 σ L xs Qr n9) ih x0 x1 x2 x3 x4 h187 bc181 bs181 hw p e s m args below meth c hC hX9 H locs ls (k + kk181) (n + nn181) hE (lv_sub hl [1, 2, 3, 4, 5] rfl) hR hS (by omega) (by omega)
          · have hw := hw.2 hc189
            refine lv_iconst (v := 0) hx hb (xb_d D_Law_law 507 rfl) (by decide) ?_
            exact xb_zret bc181 bs181 hx hb hr hlocks (show (k + kk181) + bc181 ≤ MC by omega) (show (n + nn181) + bs181 ≤ MS by omega) (by decide) hE hR hS (xb_d D_Law_law 508 rfl) hw
        · exact False.elim hq
      have hw := hw.2
      by_cases hc190 : ((xs (Int32.toNatClampNeg x4)) &&& 31) = 12
      · have hw := hw.1 hc190
        refine xt_numi hc190 ?_
        refine lv_tableIn (off := 860) (tgt := 900) hx hb (xb_d D_Law_law 24 rfl) (by decide +kernel) (by decide +kernel) (by decide +kernel) (by decide) ?_
        refine lv_aload_n hx hb (xb_d D_Law_law 510 rfl) rfl (lv_at hl 1 rfl) ?_
        refine lv_aload_n hx hb (xb_d D_Law_law 511 rfl) rfl (lv_at hl 0 rfl) ?_
        refine lv_iload hx hb (xb_d D_Law_law 512 rfl) (lv_at hl 4 rfl) ?_
        refine lv_iconst (v := 1) hx hb (xb_d D_Law_law 513 rfl) (by decide) ?_
        refine lv_iadd hx hb (xb_d D_Law_law 514 rfl) ?_
        obtain ⟨hi191, hw⟩ := hw
        refine va_sld hx hb hX hbl hbA hS hi191 (xb_d D_Law_law 515 rfl) ?_
        refine lv_aload_n hx hb (xb_d D_Law_law 516 rfl) rfl (lv_at hl 3 rfl) ?_
        refine xb_call (D := D) (A := A) (σ := σ) (h := h) (d := 11) (mc := bc) (ms := bs) (maxL := 4) (rest := []) (av := [.ref x1, .int (xs (Int32.toNatClampNeg (x4 + 1))), .ref x3]) (fun T hT X => xt_invS X hx hown (hts _ m_00163634) (hts _ m_5d8bd3a7) (hts _ m_6445b362) (xt_sgSH (hts _ m_3ea92327)).1 (xt_sgSH (hts _ m_3ea92327)).2 nm_Law_run (g := F0 m 908 ls [.ref x3, .int (xs (Int32.toNatClampNeg (x4 + 1))), .ref x1]) rfl (argsL := [.ref x1, .int (xs (Int32.toNatClampNeg (x4 + 1))), .ref x3]) (rest := []) rfl rfl (by rw [hb]; exact (xb_d D_Law_law 517 rfl))) (ok_Law_run l hfl D A σ x1 (xs (Int32.toNatClampNeg (x4 + 1))) x3 h bc bs _ hw) (hml.trans hl.1.symm) (by rw [hb]; exact (xb_d D_Law_law 517 rfl)) (Nat.le_of_ble_eq_true rfl) (Nat.le_of_ble_eq_true rfl) (Nat.le_of_ble_eq_true rfl) (show k + bc ≤ MC by omega) (show n + bs ≤ MS by omega) (xt_w1 hB.1 m_3ea92327) (xt_cdOfH hB.1 m_3ea92327) (hts _ m_6445b362) hB hR hS hA (fun vv h192 bc193 bs193 kk193 nn193 H locs hk193 hn193 hq hEh192 hR hS => ?_) (fun XX ax h192 bc193 bs193 kk193 nn193 H locs hk193 hn193 hq hEh192 hex hR hS => ?_)
        · obtain ⟨r193, rfl, hw⟩ := hq
          have hw := hw hEh192
          have hE := hE.tr hEh192
          refine W.eq (g2 := F0 m 911 ls [.int r193]) rfl ?_
          refine lv_istore hx hb (xb_d D_Law_law 518 rfl) hl (by decide) rfl (fun ls hl => ?_)
          have hl : lv_has ls 8 [(5, .int r193), (0, .ref x0), (1, .ref x1), (2, .ref x2), (3, .ref x3), (4, .int x4)] := hl
          refine lv_aload_n hx hb (xb_d D_Law_law 519 rfl) rfl (lv_at hl 3 rfl) ?_
          refine lv_aload_n hx hb (xb_d D_Law_law 520 rfl) rfl (lv_at hl 1 rfl) ?_
          refine lv_iload hx hb (xb_d D_Law_law 521 rfl) (lv_at hl 5 rfl) ?_
          refine lv_iconst (v := 1) hx hb (xb_d D_Law_law 522 rfl) (by decide) ?_
          refine lv_iadd hx hb (xb_d D_Law_law 523 rfl) ?_
          obtain ⟨hi194, hw⟩ := hw
          refine va_sld hx hb hX hbl hbA hS hi194 (xb_d D_Law_law 524 rfl) ?_
          obtain ⟨hk195, hw⟩ := hw
          refine xb_call0 (D := D) (A := A) (σ := σ) (h := h192) (d := 13) (maxL := 6) (rest := []) (av := [.ref x2, .int (xs (Int32.toNatClampNeg (x4 + 1)))]) (fun T hT X => by obtain ⟨cb9, ra9, rb9, rc9⟩ := xb_recv (ci := 8) hR rfl hk195 (by decide); exact xt_invV X hx hown (hts _ m_362e6f00) (hts _ m_7da41847) (hts _ m_15a64045) (xt_sigOf (hts _ m_5741cf7c)) nm_M_run (by rw [hT]; exact ra9) rb9 rc9 (g := F0 m 920 ls [.int (xs (Int32.toNatClampNeg (x4 + 1))), .ref x2]) rfl (argsL := [.int (xs (Int32.toNatClampNeg (x4 + 1)))]) (rest := []) rfl rfl (by rw [hb]; exact (xb_d D_Law_law 525 rfl))) (ok_M_run l hfl D A σ x2 (xs (Int32.toNatClampNeg (x4 + 1))) h192 _ hw) (hml.trans hl.1.symm) (by rw [hb]; exact (xb_d D_Law_law 525 rfl)) (Nat.le_of_ble_eq_true rfl) (Nat.le_of_ble_eq_true rfl) (Nat.le_of_ble_eq_true rfl) (show (k + kk193) ≤ MC by omega) (show (n + nn193) ≤ MS by omega) (xt_w1 hB.1 m_5741cf7c) (xt_cdOf hB.1 m_5741cf7c) (hts _ m_d5ed7bed) hB hR hS hA (fun vv h196 H locs hq hEh196 hR hS => ?_)
          obtain ⟨r197, rfl, hw⟩ := hq
          have hw := hw hEh196
          have hE := hE.tr hEh196
          refine W.eq (g2 := F0 m 923 ls [.int r197]) rfl ?_
          refine lv_istore hx hb (xb_d D_Law_law 526 rfl) hl (by decide) rfl (fun ls hl => ?_)
          have hl : lv_has ls 8 [(6, .int r197), (5, .int r193), (0, .ref x0), (1, .ref x1), (2, .ref x2), (3, .ref x3), (4, .int x4)] := hl
          refine lv_aload_n hx hb (xb_d D_Law_law 527 rfl) rfl (lv_at hl 4 rfl) ?_
          have hk195 : xb_k h196 x2 = 9 := hEh196.k hk195
          refine xb_call0 (D := D) (A := A) (σ := σ) (h := h196) (d := 2) (maxL := 1) (rest := []) (av := [.ref x2]) (fun T hT X => by obtain ⟨cb9, ra9, rb9, rc9⟩ := xb_recv (ci := 8) hR rfl hk195 (by decide); exact xt_invV X hx hown (hts _ m_4e0e8e72) (hts _ m_e6bd7a2e) (hts _ m_a9e3d950) (xt_sigOf (hts _ m_6c6d2858)) nm_M_thrown (by rw [hT]; exact ra9) rb9 rc9 (g := F0 m 926 ls [.ref x2]) rfl (argsL := []) (rest := []) rfl rfl (by rw [hb]; exact (xb_d D_Law_law 528 rfl))) (ok_M_thrown l hfl D A σ x2 h196 _ hw) (hml.trans hl.1.symm) (by rw [hb]; exact (xb_d D_Law_law 528 rfl)) (Nat.le_of_ble_eq_true rfl) (Nat.le_of_ble_eq_true rfl) (Nat.le_of_ble_eq_true rfl) (show (k + kk193) ≤ MC by omega) (show (n + nn193) ≤ MS by omega) (xt_w1 hB.1 m_6c6d2858) (xt_cdOf hB.1 m_6c6d2858) (hts _ m_d5ed7bed) hB hR hS hA (fun vv h198 H locs hq hEh198 hR hS => ?_)
          obtain ⟨r199, rfl, hw⟩ := hq
          have hw := hw hEh198
          have hE := hE.tr hEh198
          refine W.eq (g2 := F0 m 929 ls [.int r199]) rfl ?_
          refine lv_iload hx hb (xb_d D_Law_law 529 rfl) (lv_at hl 1 rfl) ?_
          refine lv_icmp_eq (tgt := 936) hx hb (xb_d D_Law_law 530 rfl) rfl (fun hc200 => ?_) (fun hc200 => ?_)
          · have hw := hw.1 hc200
            refine lv_iload hx hb (xb_d D_Law_law 533 rfl) (lv_at hl 1 rfl) ?_
            refine lv_if_ne (tgt := 953) hx hb (xb_d D_Law_law 534 rfl) rfl (fun hc201 => ?_) (fun hc201 => ?_)
            · have hw := hw.1 hc201
              exact am_Law_law_L953 l hfl D A σ L xs MC MS h0 Qr (w2_Law_law_L23 σ L xs Qr n9) ih x0 x1 x2 x3 x4 h198 bc193 bs193 hw p e s m args below meth c hC hX9 H locs ls (k + kk193) (n + nn193) hE (lv_sub hl [2, 3, 4, 5, 6] rfl) hR hS (by omega) (by omega)
            · have hw := hw.2 hc201
              refine lv_aload_n hx hb (xb_d D_Law_law 535 rfl) rfl (lv_at hl 5 rfl) ?_
              refine lv_iconst (v := 0) hx hb (xb_d D_Law_law 536 rfl) (by decide) ?_
              obtain ⟨hk203, hw⟩ := hw
              obtain ⟨hi202, hw⟩ := hw
              refine xb_lald hx hb hR hk203 hi202 (xb_d D_Law_law 537 rfl) ?_
              refine xt_numl (y := (xb_l h198 x3 0)) (congrArg (xb_l h198 x3) (by decide : (0 : Int32).toNatClampNeg = 0)) ?_
              refine lv_iload hx hb (xb_d D_Law_law 538 rfl) (lv_at hl 0 rfl) ?_
              refine lv_i2l hx hb (xb_d D_Law_law 539 rfl) rfl ?_
              refine xb_lc_eq (tgt := 953) hx hb (xb_d D_Law_law 540 rfl) (xb_d D_Law_law 541 rfl) rfl (fun hc204 => ?_) (fun hc204 => ?_)
              · have hw := hw.1 hc204
                exact am_Law_law_L953 l hfl D A σ L xs MC MS h0 Qr (w2_Law_law_L23 σ L xs Qr n9) ih x0 x1 x2 x3 x4 h198 bc193 bs193 hw p e s m args below meth c hC hX9 H locs ls (k + kk193) (n + nn193) hE (lv_sub hl [2, 3, 4, 5, 6] rfl) hR hS (by omega) (by omega)
              · have hw := hw.2 hc204
                refine lv_iconst (v := 0) hx hb (xb_d D_Law_law 542 rfl) (by decide) ?_
                exact xb_zret bc193 bs193 hx hb hr hlocks (show (k + kk193) + bc193 ≤ MC by omega) (show (n + nn193) + bs193 ≤ MS by omega) (by decide) hE hR hS (xb_d D_Law_law 543 rfl) hw
          · have hw := hw.2 hc200
            refine lv_iconst (v := 0) hx hb (xb_d D_Law_law 531 rfl) (by decide) ?_
            exact xb_zret bc193 bs193 hx hb hr hlocks (show (k + kk193) + bc193 ≤ MC by omega) (show (n + nn193) + bs193 ≤ MS by omega) (by decide) hE hR hS (xb_d D_Law_law 532 rfl) hw
        · exact False.elim hq
      have hw := hw.2
      by_cases hc205 : ((xs (Int32.toNatClampNeg x4)) &&& 31) = 13
      · have hw := hw.1 hc205
        refine xt_numi hc205 ?_
        refine lv_tableIn (off := 916) (tgt := 956) hx hb (xb_d D_Law_law 24 rfl) (by decide +kernel) (by decide +kernel) (by decide +kernel) (by decide) ?_
        refine lv_aload_n hx hb (xb_d D_Law_law 545 rfl) rfl (lv_at hl 1 rfl) ?_
        obtain ⟨hk206, hw⟩ := hw
        refine xb_call0 (D := D) (A := A) (σ := σ) (h := h) (d := 3) (maxL := 1) (rest := []) (av := [.ref x1]) (fun T hT X => by obtain ⟨cb9, ra9, rb9, rc9⟩ := xb_recv (ci := 0) hR rfl hk206 (by decide); exact xt_invV X hx hown (hts _ m_513d58ac) (hts _ m_b95c9c7f) (hts _ m_fbc9d42c) (xt_sigOf (hts _ m_d6deab78)) nm_H_stop (by rw [hT]; exact ra9) rb9 rc9 (g := F0 m 957 ls [.ref x1]) rfl (argsL := []) (rest := []) rfl rfl (by rw [hb]; exact (xb_d D_Law_law 546 rfl))) (ok_H_stop l hfl D A σ x1 h _ hw) (hml.trans hl.1.symm) (by rw [hb]; exact (xb_d D_Law_law 546 rfl)) (Nat.le_of_ble_eq_true rfl) (Nat.le_of_ble_eq_true rfl) (Nat.le_of_ble_eq_true rfl) (show k ≤ MC by omega) (show n ≤ MS by omega) (xt_w1 hB.1 m_d6deab78) (xt_cdOf hB.1 m_d6deab78) (hts _ m_ba0734f5) hB hR hS hA (fun vv h207 H locs hq hEh207 hR hS => ?_)
        obtain ⟨r208, rfl, hw⟩ := hq
        have hw := hw hEh207
        have hE := hE.tr hEh207
        refine W.eq (g2 := F0 m 960 ls [.int r208]) rfl ?_
        refine lv_aload_n hx hb (xb_d D_Law_law 547 rfl) rfl (lv_at hl 2 rfl) ?_
        obtain ⟨hk209, hw⟩ := hw
        refine xb_call0 (D := D) (A := A) (σ := σ) (h := h207) (d := 2) (maxL := 2) (rest := [.int r208]) (av := [.ref x2]) (fun T hT X => by obtain ⟨cb9, ra9, rb9, rc9⟩ := xb_recv (ci := 8) hR rfl hk209 (by decide); exact xt_invV X hx hown (hts _ m_4c572d62) (hts _ m_136699e8) (hts _ m_733b14e3) (xt_sigOf (hts _ m_545720a2)) nm_M_stop (by rw [hT]; exact ra9) rb9 rc9 (g := F0 m 961 ls [.ref x2, .int r208]) rfl (argsL := []) (rest := [.int r208]) rfl rfl (by rw [hb]; exact (xb_d D_Law_law 548 rfl))) (ok_M_stop l hfl D A σ x2 h207 _ hw) (hml.trans hl.1.symm) (by rw [hb]; exact (xb_d D_Law_law 548 rfl)) (Nat.le_of_ble_eq_true rfl) (Nat.le_of_ble_eq_true rfl) (Nat.le_of_ble_eq_true rfl) (show k ≤ MC by omega) (show n ≤ MS by omega) (xt_w1 hB.1 m_545720a2) (xt_cdOf hB.1 m_545720a2) (hts _ m_d5ed7bed) hB hR hS hA (fun vv h210 H locs hq hEh210 hR hS => ?_)
        obtain ⟨r211, rfl, hw⟩ := hq
        have hw := hw hEh210
        have hE := hE.tr hEh210
        refine W.eq (g2 := F0 m 964 ls [.int r211, .int r208]) rfl ?_
        refine lv_icmp_eq (tgt := 1465) hx hb (xb_d D_Law_law 549 rfl) rfl (fun hc212 => ?_) (fun hc212 => ?_)
        · have hw := hw.1 hc212
          exact am_Law_law_L1465 l hfl D A σ L xs MC MS h0 Qr (w2_Law_law_L23 σ L xs Qr n9) ih x0 x1 x2 x3 x4 h210 bc bs hw p e s m args below meth c hC hX9 H locs ls k n hE (lv_sub hl [0, 1, 2, 3, 4] rfl) hR hS (by omega) (by omega)
        · have hw := hw.2 hc212
          refine lv_iconst (v := 0) hx hb (xb_d D_Law_law 550 rfl) (by decide) ?_
          exact xb_zret bc bs hx hb hr hlocks (show k + bc ≤ MC by omega) (show n + bs ≤ MS by omega) (by decide) hE hR hS (xb_d D_Law_law 551 rfl) hw
      have hw := hw.2
      by_cases hc213 : ((xs (Int32.toNatClampNeg x4)) &&& 31) = 14
      · have hw := hw.1 hc213
        refine xt_numi hc213 ?_
        refine lv_tableIn (off := 929) (tgt := 969) hx hb (xb_d D_Law_law 24 rfl) (by decide +kernel) (by decide +kernel) (by decide +kernel) (by decide) ?_
        refine lv_aload_n hx hb (xb_d D_Law_law 552 rfl) rfl (lv_at hl 1 rfl) ?_
        obtain ⟨hk214, hw⟩ := hw
        refine xb_call0 (D := D) (A := A) (σ := σ) (h := h) (d := 2) (maxL := 1) (rest := []) (av := [.ref x1]) (fun T hT X => by obtain ⟨cb9, ra9, rb9, rc9⟩ := xb_recv (ci := 0) hR rfl hk214 (by decide); exact xt_invV X hx hown (hts _ m_d653f6eb) (hts _ m_284c1805) (hts _ m_a8d3f30a) (xt_sigOf (hts _ m_46c065db)) nm_H_calls (by rw [hT]; exact ra9) rb9 rc9 (g := F0 m 970 ls [.ref x1]) rfl (argsL := []) (rest := []) rfl rfl (by rw [hb]; exact (xb_d D_Law_law 553 rfl))) (ok_H_calls l hfl D A σ x1 h _ hw) (hml.trans hl.1.symm) (by rw [hb]; exact (xb_d D_Law_law 553 rfl)) (Nat.le_of_ble_eq_true rfl) (Nat.le_of_ble_eq_true rfl) (Nat.le_of_ble_eq_true rfl) (show k ≤ MC by omega) (show n ≤ MS by omega) (xt_w1 hB.1 m_46c065db) (xt_cdOf hB.1 m_46c065db) (hts _ m_ba0734f5) hB hR hS hA (fun vv h215 H locs hq hEh215 hR hS => ?_)
        obtain ⟨r216, rfl, hw⟩ := hq
        have hw := hw hEh215
        have hE := hE.tr hEh215
        refine W.eq (g2 := F0 m 973 ls [.int r216]) rfl ?_
        refine lv_aload_n hx hb (xb_d D_Law_law 554 rfl) rfl (lv_at hl 2 rfl) ?_
        obtain ⟨hk217, hw⟩ := hw
        refine xb_call0 (D := D) (A := A) (σ := σ) (h := h215) (d := 2) (maxL := 1) (rest := [.int r216]) (av := [.ref x2]) (fun T hT X => by obtain ⟨cb9, ra9, rb9, rc9⟩ := xb_recv (ci := 8) hR rfl hk217 (by decide); exact xt_invV X hx hown (hts _ m_0d5f3faa) (hts _ m_c0729cda) (hts _ m_3840d3a2) (xt_sigOf (hts _ m_2518159a)) nm_M_calls (by rw [hT]; exact ra9) rb9 rc9 (g := F0 m 974 ls [.ref x2, .int r216]) rfl (argsL := []) (rest := [.int r216]) rfl rfl (by rw [hb]; exact (xb_d D_Law_law 555 rfl))) (ok_M_calls l hfl D A σ x2 h215 _ hw) (hml.trans hl.1.symm) (by rw [hb]; exact (xb_d D_Law_law 555 rfl)) (Nat.le_of_ble_eq_true rfl) (Nat.le_of_ble_eq_true rfl) (Nat.le_of_ble_eq_true rfl) (show k ≤ MC by omega) (show n ≤ MS by omega) (xt_w1 hB.1 m_2518159a) (xt_cdOf hB.1 m_2518159a) (hts _ m_d5ed7bed) hB hR hS hA (fun vv h218 H locs hq hEh218 hR hS => ?_)
        obtain ⟨r219, rfl, hw⟩ := hq
        have hw := hw hEh218
        have hE := hE.tr hEh218
        refine W.eq (g2 := F0 m 977 ls [.int r219, .int r216]) rfl ?_
        refine lv_icmp_eq (tgt := 1465) hx hb (xb_d D_Law_law 556 rfl) rfl (fun hc220 => ?_) (fun hc220 => ?_)
        · have hw := hw.1 hc220
          exact am_Law_law_L1465 l hfl D A σ L xs MC MS h0 Qr (w2_Law_law_L23 σ L xs Qr n9) ih x0 x1 x2 x3 x4 h218 bc bs hw p e s m args below meth c hC hX9 H locs ls k n hE (lv_sub hl [0, 1, 2, 3, 4] rfl) hR hS (by omega) (by omega)
        · have hw := hw.2 hc220
          refine lv_iconst (v := 0) hx hb (xb_d D_Law_law 557 rfl) (by decide) ?_
          exact xb_zret bc bs hx hb hr hlocks (show k + bc ≤ MC by omega) (show n + bs ≤ MS by omega) (by decide) hE hR hS (xb_d D_Law_law 558 rfl) hw
      have hw := hw.2
      by_cases hc221 : ((xs (Int32.toNatClampNeg x4)) &&& 31) = 15
      · have hw := hw.1 hc221
        refine xt_numi hc221 ?_
        refine lv_tableIn (off := 942) (tgt := 982) hx hb (xb_d D_Law_law 24 rfl) (by decide +kernel) (by decide +kernel) (by decide +kernel) (by decide) ?_
        refine lv_aload_n hx hb (xb_d D_Law_law 559 rfl) rfl (lv_at hl 1 rfl) ?_
        obtain ⟨hk222, hw⟩ := hw
        refine xb_call0 (D := D) (A := A) (σ := σ) (h := h) (d := 2) (maxL := 1) (rest := []) (av := [.ref x1]) (fun T hT X => by obtain ⟨cb9, ra9, rb9, rc9⟩ := xb_recv (ci := 0) hR rfl hk222 (by decide); exact xt_invV X hx hown (hts _ m_3e98417a) (hts _ m_6f7c43e3) (hts _ m_6a5f97b4) (xt_sigOf (hts _ m_ee8450e5)) nm_H_result (by rw [hT]; exact ra9) rb9 rc9 (g := F0 m 983 ls [.ref x1]) rfl (argsL := []) (rest := []) rfl rfl (by rw [hb]; exact (xb_d D_Law_law 560 rfl))) (ok_H_result l hfl D A σ x1 h _ hw) (hml.trans hl.1.symm) (by rw [hb]; exact (xb_d D_Law_law 560 rfl)) (Nat.le_of_ble_eq_true rfl) (Nat.le_of_ble_eq_true rfl) (Nat.le_of_ble_eq_true rfl) (show k ≤ MC by omega) (show n ≤ MS by omega) (xt_w1 hB.1 m_ee8450e5) (xt_cdOf hB.1 m_ee8450e5) (hts _ m_ba0734f5) hB hR hS hA (fun vv h223 H locs hq hEh223 hR hS => ?_)
        obtain ⟨r224, rfl, hw⟩ := hq
        have hw := hw hEh223
        have hE := hE.tr hEh223
        refine W.eq (g2 := F0 m 986 ls [.long r224]) rfl ?_
        refine lv_aload_n hx hb (xb_d D_Law_law 561 rfl) rfl (lv_at hl 2 rfl) ?_
        obtain ⟨hk225, hw⟩ := hw
        refine xb_call0 (D := D) (A := A) (σ := σ) (h := h223) (d := 2) (maxL := 1) (rest := [.long r224]) (av := [.ref x2]) (fun T hT X => by obtain ⟨cb9, ra9, rb9, rc9⟩ := xb_recv (ci := 8) hR rfl hk225 (by decide); exact xt_invV X hx hown (hts _ m_69765c63) (hts _ m_a6fe7e52) (hts _ m_429e009f) (xt_sigOf (hts _ m_45e6955b)) nm_M_result (by rw [hT]; exact ra9) rb9 rc9 (g := F0 m 987 ls [.ref x2, .long r224]) rfl (argsL := []) (rest := [.long r224]) rfl rfl (by rw [hb]; exact (xb_d D_Law_law 562 rfl))) (ok_M_result l hfl D A σ x2 h223 _ hw) (hml.trans hl.1.symm) (by rw [hb]; exact (xb_d D_Law_law 562 rfl)) (Nat.le_of_ble_eq_true rfl) (Nat.le_of_ble_eq_true rfl) (Nat.le_of_ble_eq_true rfl) (show k ≤ MC by omega) (show n ≤ MS by omega) (xt_w1 hB.1 m_45e6955b) (xt_cdOf hB.1 m_45e6955b) (hts _ m_d5ed7bed) hB hR hS hA (fun vv h226 H locs hq hEh226 hR hS => ?_)
        obtain ⟨r227, rfl, hw⟩ := hq
        have hw := hw hEh226
        have hE := hE.tr hEh226
        refine W.eq (g2 := F0 m 990 ls [.long r227, .long r224]) rfl ?_
        refine xb_lc_eq (tgt := 1465) hx hb (xb_d D_Law_law 563 rfl) (xb_d D_Law_law 564 rfl) rfl (fun hc228 => ?_) (fun hc228 => ?_)
        · have hw := hw.1 hc228
          exact am_Law_law_L1465 l hfl D A σ L xs MC MS h0 Qr (w2_Law_law_L23 σ L xs Qr n9) ih x0 x1 x2 x3 x4 h226 bc bs hw p e s m args below meth c hC hX9 H locs ls k n hE (lv_sub hl [0, 1, 2, 3, 4] rfl) hR hS (by omega) (by omega)
        · have hw := hw.2 hc228
          refine lv_iconst (v := 0) hx hb (xb_d D_Law_law 565 rfl) (by decide) ?_
          exact xb_zret bc bs hx hb hr hlocks (show k + bc ≤ MC by omega) (show n + bs ≤ MS by omega) (by decide) hE hR hS (xb_d D_Law_law 566 rfl) hw
      have hw := hw.2
      by_cases hc229 : ((xs (Int32.toNatClampNeg x4)) &&& 31) = 16
      · have hw := hw.1 hc229
        refine xt_numi hc229 ?_
        refine lv_tableIn (off := 956) (tgt := 996) hx hb (xb_d D_Law_law 24 rfl) (by decide +kernel) (by decide +kernel) (by decide +kernel) (by decide) ?_
        refine lv_aload_n hx hb (xb_d D_Law_law 567 rfl) rfl (lv_at hl 1 rfl) ?_
        refine lv_aload_n hx hb (xb_d D_Law_law 568 rfl) rfl (lv_at hl 0 rfl) ?_
        refine lv_iload hx hb (xb_d D_Law_law 569 rfl) (lv_at hl 4 rfl) ?_
        refine lv_iconst (v := 1) hx hb (xb_d D_Law_law 570 rfl) (by decide) ?_
        refine lv_iadd hx hb (xb_d D_Law_law 571 rfl) ?_
        obtain ⟨hi230, hw⟩ := hw
        refine va_sld hx hb hX hbl hbA hS hi230 (xb_d D_Law_law 572 rfl) ?_
        refine lv_aload_n hx hb (xb_d D_Law_law 573 rfl) rfl (lv_at hl 3 rfl) ?_
        refine xb_call (D := D) (A := A) (σ := σ) (h := h) (d := 3) (mc := bc) (ms := bs) (maxL := 4) (rest := []) (av := [.ref x1, .int (xs (Int32.toNatClampNeg (x4 + 1))), .ref x3]) (fun T hT X => xt_invS X hx hown (hts _ m_9fd736f5) (hts _ m_3ae348b9) (hts _ m_6445b362) (xt_sgSH (hts _ m_c46c6eff)).1 (xt_sgSH (hts _ m_c46c6eff)).2 nm_Law_trap (g := F0 m 1004 ls [.ref x3, .int (xs (Int32.toNatClampNeg (x4 + 1))), .ref x1]) rfl (argsL := [.ref x1, .int (xs (Int32.toNatClampNeg (x4 + 1))), .ref x3]) (rest := []) rfl rfl (by rw [hb]; exact (xb_d D_Law_law 574 rfl))) (ok_Law_trap l hfl D A σ x1 (xs (Int32.toNatClampNeg (x4 + 1))) x3 h bc bs _ hw) (hml.trans hl.1.symm) (by rw [hb]; exact (xb_d D_Law_law 574 rfl)) (Nat.le_of_ble_eq_true rfl) (Nat.le_of_ble_eq_true rfl) (Nat.le_of_ble_eq_true rfl) (show k + bc ≤ MC by omega) (show n + bs ≤ MS by omega) (xt_w1 hB.1 m_c46c6eff) (xt_cdOfH hB.1 m_c46c6eff) (hts _ m_6445b362) hB hR hS hA (fun vv h231 bc232 bs232 kk232 nn232 H locs hk232 hn232 hq hEh231 hR hS => ?_) (fun XX ax h231 bc232 bs232 kk232 nn232 H locs hk232 hn232 hq hEh231 hex hR hS => ?_)
        · obtain ⟨r232, rfl, hw⟩ := hq
          have hw := hw hEh231
          have hE := hE.tr hEh231
          refine W.eq (g2 := F0 m 1007 ls [.int r232]) rfl ?_
          refine lv_istore hx hb (xb_d D_Law_law 575 rfl) hl (by decide) rfl (fun ls hl => ?_)
          have hl : lv_has ls 8 [(5, .int r232), (0, .ref x0), (1, .ref x1), (2, .ref x2), (3, .ref x3), (4, .int x4)] := hl
          refine lv_aload_n hx hb (xb_d D_Law_law 576 rfl) rfl (lv_at hl 3 rfl) ?_
          refine lv_aload_n hx hb (xb_d D_Law_law 577 rfl) rfl (lv_at hl 1 rfl) ?_
          refine lv_iload hx hb (xb_d D_Law_law 578 rfl) (lv_at hl 5 rfl) ?_
          refine lv_iconst (v := 1) hx hb (xb_d D_Law_law 579 rfl) (by decide) ?_
          refine lv_iadd hx hb (xb_d D_Law_law 580 rfl) ?_
          obtain ⟨hi233, hw⟩ := hw
          refine va_sld hx hb hX hbl hbA hS hi233 (xb_d D_Law_law 581 rfl) ?_
          obtain ⟨hk234, hw⟩ := hw
          refine xb_call0 (D := D) (A := A) (σ := σ) (h := h231) (d := 2) (maxL := 2) (rest := []) (av := [.ref x2, .int (xs (Int32.toNatClampNeg (x4 + 1)))]) (fun T hT X => by obtain ⟨cb9, ra9, rb9, rc9⟩ := xb_recv (ci := 8) hR rfl hk234 (by decide); exact xt_invV X hx hown (hts _ m_d110bb05) (hts _ m_f4d30eb7) (hts _ m_684d6285) (xt_sigOf (hts _ m_4b26901a)) nm_M_trap (by rw [hT]; exact ra9) rb9 rc9 (g := F0 m 1016 ls [.int (xs (Int32.toNatClampNeg (x4 + 1))), .ref x2]) rfl (argsL := [.int (xs (Int32.toNatClampNeg (x4 + 1)))]) (rest := []) rfl rfl (by rw [hb]; exact (xb_d D_Law_law 582 rfl))) (ok_M_trap l hfl D A σ x2 (xs (Int32.toNatClampNeg (x4 + 1))) h231 _ hw) (hml.trans hl.1.symm) (by rw [hb]; exact (xb_d D_Law_law 582 rfl)) (Nat.le_of_ble_eq_true rfl) (Nat.le_of_ble_eq_true rfl) (Nat.le_of_ble_eq_true rfl) (show (k + kk232) ≤ MC by omega) (show (n + nn232) ≤ MS by omega) (xt_w1 hB.1 m_4b26901a) (xt_cdOf hB.1 m_4b26901a) (hts _ m_d5ed7bed) hB hR hS hA (fun vv h235 H locs hq hEh235 hR hS => ?_)
          obtain ⟨r236, rfl, hw⟩ := hq
          have hw := hw hEh235
          have hE := hE.tr hEh235
          refine W.eq (g2 := F0 m 1019 ls [.int r236]) rfl ?_
          refine lv_istore hx hb (xb_d D_Law_law 583 rfl) hl (by decide) rfl (fun ls hl => ?_)
          have hl : lv_has ls 8 [(6, .int r236), (5, .int r232), (0, .ref x0), (1, .ref x1), (2, .ref x2), (3, .ref x3), (4, .int x4)] := hl
          refine lv_aload_n hx hb (xb_d D_Law_law 584 rfl) rfl (lv_at hl 4 rfl) ?_
          have hk234 : xb_k h235 x2 = 9 := hEh235.k hk234
          refine xb_call0 (D := D) (A := A) (σ := σ) (h := h235) (d := 2) (maxL := 1) (rest := []) (av := [.ref x2]) (fun T hT X => by obtain ⟨cb9, ra9, rb9, rc9⟩ := xb_recv (ci := 8) hR rfl hk234 (by decide); exact xt_invV X hx hown (hts _ m_4e0e8e72) (hts _ m_e6bd7a2e) (hts _ m_a9e3d950) (xt_sigOf (hts _ m_6c6d2858)) nm_M_thrown (by rw [hT]; exact ra9) rb9 rc9 (g := F0 m 1022 ls [.ref x2]) rfl (argsL := []) (rest := []) rfl rfl (by rw [hb]; exact (xb_d D_Law_law 585 rfl))) (ok_M_thrown l hfl D A σ x2 h235 _ hw) (hml.trans hl.1.symm) (by rw [hb]; exact (xb_d D_Law_law 585 rfl)) (Nat.le_of_ble_eq_true rfl) (Nat.le_of_ble_eq_true rfl) (Nat.le_of_ble_eq_true rfl) (show (k + kk232) ≤ MC by omega) (show (n + nn232) ≤ MS by omega) (xt_w1 hB.1 m_6c6d2858) (xt_cdOf hB.1 m_6c6d2858) (hts _ m_d5ed7bed) hB hR hS hA (fun vv h237 H locs hq hEh237 hR hS => ?_)
          obtain ⟨r238, rfl, hw⟩ := hq
          have hw := hw hEh237
          have hE := hE.tr hEh237
          refine W.eq (g2 := F0 m 1025 ls [.int r238]) rfl ?_
          refine lv_iload hx hb (xb_d D_Law_law 586 rfl) (lv_at hl 1 rfl) ?_
          refine lv_icmp_eq (tgt := 1032) hx hb (xb_d D_Law_law 587 rfl) rfl (fun hc239 => ?_) (fun hc239 => ?_)
          · have hw := hw.1 hc239
            refine lv_iload hx hb (xb_d D_Law_law 590 rfl) (lv_at hl 1 rfl) ?_
            refine lv_if_ne (tgt := 1049) hx hb (xb_d D_Law_law 591 rfl) rfl (fun hc240 => ?_) (fun hc240 => ?_)
            · have hw := hw.1 hc240
              exact am_Law_law_L1049 l hfl D A σ L xs MC MS h0 Qr (w2_Law_law_L23 σ L xs Qr n9) ih x0 x1 x2 x3 x4 h237 bc232 bs232 hw p e s m args below meth c hC hX9 H locs ls (k + kk232) (n + nn232) hE (lv_sub hl [2, 3, 4, 5, 6] rfl) hR hS (by omega) (by omega)
            · have hw := hw.2 hc240
              refine lv_aload_n hx hb (xb_d D_Law_law 592 rfl) rfl (lv_at hl 5 rfl) ?_
              refine lv_iconst (v := 0) hx hb (xb_d D_Law_law 593 rfl) (by decide) ?_
              obtain ⟨hk242, hw⟩ := hw
              obtain ⟨hi241, hw⟩ := hw
              refine xb_lald hx hb hR hk242 hi241 (xb_d D_Law_law 594 rfl) ?_
              refine xt_numl (y := (xb_l h237 x3 0)) (congrArg (xb_l h237 x3) (by decide : (0 : Int32).toNatClampNeg = 0)) ?_
              refine lv_iload hx hb (xb_d D_Law_law 595 rfl) (lv_at hl 0 rfl) ?_
              refine lv_i2l hx hb (xb_d D_Law_law 596 rfl) rfl ?_
              refine xb_lc_eq (tgt := 1049) hx hb (xb_d D_Law_law 597 rfl) (xb_d D_Law_law 598 rfl) rfl (fun hc243 => ?_) (fun hc243 => ?_)
              · have hw := hw.1 hc243
                exact am_Law_law_L1049 l hfl D A σ L xs MC MS h0 Qr (w2_Law_law_L23 σ L xs Qr n9) ih x0 x1 x2 x3 x4 h237 bc232 bs232 hw p e s m args below meth c hC hX9 H locs ls (k + kk232) (n + nn232) hE (lv_sub hl [2, 3, 4, 5, 6] rfl) hR hS (by omega) (by omega)
              · have hw := hw.2 hc243
                refine lv_iconst (v := 0) hx hb (xb_d D_Law_law 599 rfl) (by decide) ?_
                exact xb_zret bc232 bs232 hx hb hr hlocks (show (k + kk232) + bc232 ≤ MC by omega) (show (n + nn232) + bs232 ≤ MS by omega) (by decide) hE hR hS (xb_d D_Law_law 600 rfl) hw
          · have hw := hw.2 hc239
            refine lv_iconst (v := 0) hx hb (xb_d D_Law_law 588 rfl) (by decide) ?_
            exact xb_zret bc232 bs232 hx hb hr hlocks (show (k + kk232) + bc232 ≤ MC by omega) (show (n + nn232) + bs232 ≤ MS by omega) (by decide) hE hR hS (xb_d D_Law_law 589 rfl) hw
        · exact False.elim hq
      have hw := hw.2
      by_cases hc244 : ((xs (Int32.toNatClampNeg x4)) &&& 31) = 17
      · have hw := hw.1 hc244
        refine xt_numi hc244 ?_
        refine lv_tableIn (off := 1012) (tgt := 1052) hx hb (xb_d D_Law_law 24 rfl) (by decide +kernel) (by decide +kernel) (by decide +kernel) (by decide) ?_
        refine lv_aload_n hx hb (xb_d D_Law_law 602 rfl) rfl (lv_at hl 1 rfl) ?_
        refine lv_aload_n hx hb (xb_d D_Law_law 603 rfl) rfl (lv_at hl 0 rfl) ?_
        refine lv_iload hx hb (xb_d D_Law_law 604 rfl) (lv_at hl 4 rfl) ?_
        refine lv_iconst (v := 1) hx hb (xb_d D_Law_law 605 rfl) (by decide) ?_
        refine lv_iadd hx hb (xb_d D_Law_law 606 rfl) ?_
        obtain ⟨hi245, hw⟩ := hw
        refine va_sld hx hb hX hbl hbA hS hi245 (xb_d D_Law_law 607 rfl) ?_
        refine lv_aload_n hx hb (xb_d D_Law_law 608 rfl) rfl (lv_at hl 3 rfl) ?_
        refine xb_call (D := D) (A := A) (σ := σ) (h := h) (d := 4) (mc := bc) (ms := bs) (maxL := 4) (rest := []) (av := [.ref x1, .int (xs (Int32.toNatClampNeg (x4 + 1))), .ref x3]) (fun T hT X => xt_invS X hx hown (hts _ m_ea61065c) (hts _ m_036c732f) (hts _ m_6445b362) (xt_sgSH (hts _ m_d751318f)).1 (xt_sgSH (hts _ m_d751318f)).2 nm_Law_pages (g := F0 m 1060 ls [.ref x3, .int (xs (Int32.toNatClampNeg (x4 + 1))), .ref x1]) rfl (argsL := [.ref x1, .int (xs (Int32.toNatClampNeg (x4 + 1))), .ref x3]) (rest := []) rfl rfl (by rw [hb]; exact (xb_d D_Law_law 609 rfl))) (ok_Law_pages l hfl D A σ x1 (xs (Int32.toNatClampNeg (x4 + 1))) x3 h bc bs _ hw) (hml.trans hl.1.symm) (by rw [hb]; exact (xb_d D_Law_law 609 rfl)) (Nat.le_of_ble_eq_true rfl) (Nat.le_of_ble_eq_true rfl) (Nat.le_of_ble_eq_true rfl) (show k + bc ≤ MC by omega) (show n + bs ≤ MS by omega) (xt_w1 hB.1 m_d751318f) (xt_cdOfH hB.1 m_d751318f) (hts _ m_6445b362) hB hR hS hA (fun vv h246 bc247 bs247 kk247 nn247 H locs hk247 hn247 hq hEh246 hR hS => ?_) (fun XX ax h246 bc247 bs247 kk247 nn247 H locs hk247 hn247 hq hEh246 hex hR hS => ?_)
        · obtain ⟨r247, rfl, hw⟩ := hq
          have hw := hw hEh246
          have hE := hE.tr hEh246
          refine W.eq (g2 := F0 m 1063 ls [.int r247]) rfl ?_
          refine lv_istore hx hb (xb_d D_Law_law 610 rfl) hl (by decide) rfl (fun ls hl => ?_)
          have hl : lv_has ls 8 [(5, .int r247), (0, .ref x0), (1, .ref x1), (2, .ref x2), (3, .ref x3), (4, .int x4)] := hl
          refine lv_aload_n hx hb (xb_d D_Law_law 611 rfl) rfl (lv_at hl 3 rfl) ?_
          refine lv_aload_n hx hb (xb_d D_Law_law 612 rfl) rfl (lv_at hl 1 rfl) ?_
          refine lv_iload hx hb (xb_d D_Law_law 613 rfl) (lv_at hl 5 rfl) ?_
          refine lv_iconst (v := 1) hx hb (xb_d D_Law_law 614 rfl) (by decide) ?_
          refine lv_iadd hx hb (xb_d D_Law_law 615 rfl) ?_
          obtain ⟨hi248, hw⟩ := hw
          refine va_sld hx hb hX hbl hbA hS hi248 (xb_d D_Law_law 616 rfl) ?_
          obtain ⟨hk249, hw⟩ := hw
          refine xb_call0 (D := D) (A := A) (σ := σ) (h := h246) (d := 10) (maxL := 3) (rest := []) (av := [.ref x2, .int (xs (Int32.toNatClampNeg (x4 + 1)))]) (fun T hT X => by obtain ⟨cb9, ra9, rb9, rc9⟩ := xb_recv (ci := 8) hR rfl hk249 (by decide); exact xt_invV X hx hown (hts _ m_38e60a3d) (hts _ m_7ca87fc2) (hts _ m_91e3eddb) (xt_sigOf (hts _ m_7d1491ad)) nm_M_pages (by rw [hT]; exact ra9) rb9 rc9 (g := F0 m 1072 ls [.int (xs (Int32.toNatClampNeg (x4 + 1))), .ref x2]) rfl (argsL := [.int (xs (Int32.toNatClampNeg (x4 + 1)))]) (rest := []) rfl rfl (by rw [hb]; exact (xb_d D_Law_law 617 rfl))) (ok_M_pages l hfl D A σ x2 (xs (Int32.toNatClampNeg (x4 + 1))) h246 _ hw) (hml.trans hl.1.symm) (by rw [hb]; exact (xb_d D_Law_law 617 rfl)) (Nat.le_of_ble_eq_true rfl) (Nat.le_of_ble_eq_true rfl) (Nat.le_of_ble_eq_true rfl) (show (k + kk247) ≤ MC by omega) (show (n + nn247) ≤ MS by omega) (xt_w1 hB.1 m_7d1491ad) (xt_cdOf hB.1 m_7d1491ad) (hts _ m_d5ed7bed) hB hR hS hA (fun vv h250 H locs hq hEh250 hR hS => ?_)
          obtain ⟨r251, rfl, hw⟩ := hq
          have hw := hw hEh250
          have hE := hE.tr hEh250
          refine W.eq (g2 := F0 m 1075 ls [.int r251]) rfl ?_
          refine lv_istore hx hb (xb_d D_Law_law 618 rfl) hl (by decide) rfl (fun ls hl => ?_)
          have hl : lv_has ls 8 [(6, .int r251), (5, .int r247), (0, .ref x0), (1, .ref x1), (2, .ref x2), (3, .ref x3), (4, .int x4)] := hl
          refine lv_aload_n hx hb (xb_d D_Law_law 619 rfl) rfl (lv_at hl 4 rfl) ?_
          have hk249 : xb_k h250 x2 = 9 := hEh250.k hk249
          refine xb_call0 (D := D) (A := A) (σ := σ) (h := h250) (d := 2) (maxL := 1) (rest := []) (av := [.ref x2]) (fun T hT X => by obtain ⟨cb9, ra9, rb9, rc9⟩ := xb_recv (ci := 8) hR rfl hk249 (by decide); exact xt_invV X hx hown (hts _ m_4e0e8e72) (hts _ m_e6bd7a2e) (hts _ m_a9e3d950) (xt_sigOf (hts _ m_6c6d2858)) nm_M_thrown (by rw [hT]; exact ra9) rb9 rc9 (g := F0 m 1078 ls [.ref x2]) rfl (argsL := []) (rest := []) rfl rfl (by rw [hb]; exact (xb_d D_Law_law 620 rfl))) (ok_M_thrown l hfl D A σ x2 h250 _ hw) (hml.trans hl.1.symm) (by rw [hb]; exact (xb_d D_Law_law 620 rfl)) (Nat.le_of_ble_eq_true rfl) (Nat.le_of_ble_eq_true rfl) (Nat.le_of_ble_eq_true rfl) (show (k + kk247) ≤ MC by omega) (show (n + nn247) ≤ MS by omega) (xt_w1 hB.1 m_6c6d2858) (xt_cdOf hB.1 m_6c6d2858) (hts _ m_d5ed7bed) hB hR hS hA (fun vv h252 H locs hq hEh252 hR hS => ?_)
          obtain ⟨r253, rfl, hw⟩ := hq
          have hw := hw hEh252
          have hE := hE.tr hEh252
          refine W.eq (g2 := F0 m 1081 ls [.int r253]) rfl ?_
          refine lv_iload hx hb (xb_d D_Law_law 621 rfl) (lv_at hl 1 rfl) ?_
          refine lv_icmp_eq (tgt := 1088) hx hb (xb_d D_Law_law 622 rfl) rfl (fun hc254 => ?_) (fun hc254 => ?_)
          · have hw := hw.1 hc254
            refine lv_iload hx hb (xb_d D_Law_law 625 rfl) (lv_at hl 1 rfl) ?_
            refine lv_if_ne (tgt := 1105) hx hb (xb_d D_Law_law 626 rfl) rfl (fun hc255 => ?_) (fun hc255 => ?_)
            · have hw := hw.1 hc255
              exact am_Law_law_L1105 l hfl D A σ L xs MC MS h0 Qr (w2_Law_law_L23 σ L xs Qr n9) ih x0 x1 x2 x3 x4 h252 bc247 bs247 hw p e s m args below meth c hC hX9 H locs ls (k + kk247) (n + nn247) hE (lv_sub hl [2, 3, 4, 5, 6] rfl) hR hS (by omega) (by omega)
            · have hw := hw.2 hc255
              refine lv_aload_n hx hb (xb_d D_Law_law 627 rfl) rfl (lv_at hl 5 rfl) ?_
              refine lv_iconst (v := 0) hx hb (xb_d D_Law_law 628 rfl) (by decide) ?_
              obtain ⟨hk257, hw⟩ := hw
              obtain ⟨hi256, hw⟩ := hw
              refine xb_lald hx hb hR hk257 hi256 (xb_d D_Law_law 629 rfl) ?_
              refine xt_numl (y := (xb_l h252 x3 0)) (congrArg (xb_l h252 x3) (by decide : (0 : Int32).toNatClampNeg = 0)) ?_
              refine lv_iload hx hb (xb_d D_Law_law 630 rfl) (lv_at hl 0 rfl) ?_
              refine lv_i2l hx hb (xb_d D_Law_law 631 rfl) rfl ?_
              refine xb_lc_eq (tgt := 1105) hx hb (xb_d D_Law_law 632 rfl) (xb_d D_Law_law 633 rfl) rfl (fun hc258 => ?_) (fun hc258 => ?_)
              · have hw := hw.1 hc258
                exact am_Law_law_L1105 l hfl D A σ L xs MC MS h0 Qr (w2_Law_law_L23 σ L xs Qr n9) ih x0 x1 x2 x3 x4 h252 bc247 bs247 hw p e s m args below meth c hC hX9 H locs ls (k + kk247) (n + nn247) hE (lv_sub hl [2, 3, 4, 5, 6] rfl) hR hS (by omega) (by omega)
              · have hw := hw.2 hc258
                refine lv_iconst (v := 0) hx hb (xb_d D_Law_law 634 rfl) (by decide) ?_
                exact xb_zret bc247 bs247 hx hb hr hlocks (show (k + kk247) + bc247 ≤ MC by omega) (show (n + nn247) + bs247 ≤ MS by omega) (by decide) hE hR hS (xb_d D_Law_law 635 rfl) hw
          · have hw := hw.2 hc254
            refine lv_iconst (v := 0) hx hb (xb_d D_Law_law 623 rfl) (by decide) ?_
            exact xb_zret bc247 bs247 hx hb hr hlocks (show (k + kk247) + bc247 ≤ MC by omega) (show (n + nn247) + bs247 ≤ MS by omega) (by decide) hE hR hS (xb_d D_Law_law 624 rfl) hw
        · exact False.elim hq
      have hw := hw.2
      by_cases hc259 : ((xs (Int32.toNatClampNeg x4)) &&& 31) = 18
      · have hw := hw.1 hc259
        refine xt_numi hc259 ?_
        refine lv_tableIn (off := 1068) (tgt := 1108) hx hb (xb_d D_Law_law 24 rfl) (by decide +kernel) (by decide +kernel) (by decide +kernel) (by decide) ?_
        refine lv_aload_n hx hb (xb_d D_Law_law 637 rfl) rfl (lv_at hl 1 rfl) ?_
        refine lv_aload_n hx hb (xb_d D_Law_law 638 rfl) rfl (lv_at hl 0 rfl) ?_
        refine lv_iload hx hb (xb_d D_Law_law 639 rfl) (lv_at hl 4 rfl) ?_
        refine lv_iconst (v := 1) hx hb (xb_d D_Law_law 640 rfl) (by decide) ?_
        refine lv_iadd hx hb (xb_d D_Law_law 641 rfl) ?_
        obtain ⟨hi260, hw⟩ := hw
        refine va_sld hx hb hX hbl hbA hS hi260 (xb_d D_Law_law 642 rfl) ?_
        refine lv_aload_n hx hb (xb_d D_Law_law 643 rfl) rfl (lv_at hl 0 rfl) ?_
        refine lv_iload hx hb (xb_d D_Law_law 644 rfl) (lv_at hl 4 rfl) ?_
        refine lv_iconst (v := 2) hx hb (xb_d D_Law_law 645 rfl) (by decide) ?_
        refine lv_iadd hx hb (xb_d D_Law_law 646 rfl) ?_
        obtain ⟨hi261, hw⟩ := hw
        refine va_sld hx hb hX hbl hbA hS hi261 (xb_d D_Law_law 647 rfl) ?_
        refine lv_aload_n hx hb (xb_d D_Law_law 648 rfl) rfl (lv_at hl 3 rfl) ?_
        refine xb_call (D := D) (A := A) (σ := σ) (h := h) (d := 5) (mc := bc) (ms := bs) (maxL := 5) (rest := []) (av := [.ref x1, .int (xs (Int32.toNatClampNeg (x4 + 1))), .int (xs (Int32.toNatClampNeg (x4 + 2))), .ref x3]) (fun T hT X => xt_invS X hx hown (hts _ m_9482858c) (hts _ m_443dad31) (hts _ m_6445b362) (xt_sgSH (hts _ m_01ffaec7)).1 (xt_sgSH (hts _ m_01ffaec7)).2 nm_Law_peek (g := F0 m 1122 ls [.ref x3, .int (xs (Int32.toNatClampNeg (x4 + 2))), .int (xs (Int32.toNatClampNeg (x4 + 1))), .ref x1]) rfl (argsL := [.ref x1, .int (xs (Int32.toNatClampNeg (x4 + 1))), .int (xs (Int32.toNatClampNeg (x4 + 2))), .ref x3]) (rest := []) rfl rfl (by rw [hb]; exact (xb_d D_Law_law 649 rfl))) (ok_Law_peek l hfl D A σ x1 (xs (Int32.toNatClampNeg (x4 + 1))) (xs (Int32.toNatClampNeg (x4 + 2))) x3 h bc bs _ hw) (hml.trans hl.1.symm) (by rw [hb]; exact (xb_d D_Law_law 649 rfl)) (Nat.le_of_ble_eq_true rfl) (Nat.le_of_ble_eq_true rfl) (Nat.le_of_ble_eq_true rfl) (show k + bc ≤ MC by omega) (show n + bs ≤ MS by omega) (xt_w1 hB.1 m_01ffaec7) (xt_cdOfH hB.1 m_01ffaec7) (hts _ m_6445b362) hB hR hS hA (fun vv h262 bc263 bs263 kk263 nn263 H locs hk263 hn263 hq hEh262 hR hS => ?_) (fun XX ax h262 bc263 bs263 kk263 nn263 H locs hk263 hn263 hq hEh262 hex hR hS => ?_)
        · obtain ⟨r263, rfl, hw⟩ := hq
          have hw := hw hEh262
          have hE := hE.tr hEh262
          refine W.eq (g2 := F0 m 1125 ls [.int r263]) rfl ?_
          refine lv_istore hx hb (xb_d D_Law_law 650 rfl) hl (by decide) rfl (fun ls hl => ?_)
          have hl : lv_has ls 8 [(5, .int r263), (0, .ref x0), (1, .ref x1), (2, .ref x2), (3, .ref x3), (4, .int x4)] := hl
          refine lv_aload_n hx hb (xb_d D_Law_law 651 rfl) rfl (lv_at hl 3 rfl) ?_
          refine lv_aload_n hx hb (xb_d D_Law_law 652 rfl) rfl (lv_at hl 1 rfl) ?_
          refine lv_iload hx hb (xb_d D_Law_law 653 rfl) (lv_at hl 5 rfl) ?_
          refine lv_iconst (v := 1) hx hb (xb_d D_Law_law 654 rfl) (by decide) ?_
          refine lv_iadd hx hb (xb_d D_Law_law 655 rfl) ?_
          obtain ⟨hi264, hw⟩ := hw
          refine va_sld hx hb hX hbl hbA hS hi264 (xb_d D_Law_law 656 rfl) ?_
          refine lv_aload_n hx hb (xb_d D_Law_law 657 rfl) rfl (lv_at hl 1 rfl) ?_
          refine lv_iload hx hb (xb_d D_Law_law 658 rfl) (lv_at hl 5 rfl) ?_
          refine lv_iconst (v := 2) hx hb (xb_d D_Law_law 659 rfl) (by decide) ?_
          refine lv_iadd hx hb (xb_d D_Law_law 660 rfl) ?_
          obtain ⟨hi265, hw⟩ := hw
          refine va_sld hx hb hX hbl hbA hS hi265 (xb_d D_Law_law 661 rfl) ?_
          obtain ⟨hk266, hw⟩ := hw
          refine xb_call0 (D := D) (A := A) (σ := σ) (h := h262) (d := 11) (maxL := 3) (rest := []) (av := [.ref x2, .int (xs (Int32.toNatClampNeg (x4 + 1))), .int (xs (Int32.toNatClampNeg (x4 + 2)))]) (fun T hT X => by obtain ⟨cb9, ra9, rb9, rc9⟩ := xb_recv (ci := 8) hR rfl hk266 (by decide); exact xt_invV X hx hown (hts _ m_efbdc402) (hts _ m_7518de03) (hts _ m_c1a54879) (xt_sigOf (hts _ m_bbd82706)) nm_M_peek (by rw [hT]; exact ra9) rb9 rc9 (g := F0 m 1140 ls [.int (xs (Int32.toNatClampNeg (x4 + 2))), .int (xs (Int32.toNatClampNeg (x4 + 1))), .ref x2]) rfl (argsL := [.int (xs (Int32.toNatClampNeg (x4 + 1))), .int (xs (Int32.toNatClampNeg (x4 + 2)))]) (rest := []) rfl rfl (by rw [hb]; exact (xb_d D_Law_law 662 rfl))) (ok_M_peek l hfl D A σ x2 (xs (Int32.toNatClampNeg (x4 + 1))) (xs (Int32.toNatClampNeg (x4 + 2))) h262 _ hw) (hml.trans hl.1.symm) (by rw [hb]; exact (xb_d D_Law_law 662 rfl)) (Nat.le_of_ble_eq_true rfl) (Nat.le_of_ble_eq_true rfl) (Nat.le_of_ble_eq_true rfl) (show (k + kk263) ≤ MC by omega) (show (n + nn263) ≤ MS by omega) (xt_w1 hB.1 m_bbd82706) (xt_cdOf hB.1 m_bbd82706) (hts _ m_d5ed7bed) hB hR hS hA (fun vv h267 H locs hq hEh267 hR hS => ?_)
          obtain ⟨r268, rfl, hw⟩ := hq
          have hw := hw hEh267
          have hE := hE.tr hEh267
          refine W.eq (g2 := F0 m 1143 ls [.int r268]) rfl ?_
          refine lv_istore hx hb (xb_d D_Law_law 663 rfl) hl (by decide) rfl (fun ls hl => ?_)
          have hl : lv_has ls 8 [(6, .int r268), (5, .int r263), (0, .ref x0), (1, .ref x1), (2, .ref x2), (3, .ref x3), (4, .int x4)] := hl
          refine lv_aload_n hx hb (xb_d D_Law_law 664 rfl) rfl (lv_at hl 4 rfl) ?_
          have hk266 : xb_k h267 x2 = 9 := hEh267.k hk266
          refine xb_call0 (D := D) (A := A) (σ := σ) (h := h267) (d := 2) (maxL := 1) (rest := []) (av := [.ref x2]) (fun T hT X => by obtain ⟨cb9, ra9, rb9, rc9⟩ := xb_recv (ci := 8) hR rfl hk266 (by decide); exact xt_invV X hx hown (hts _ m_4e0e8e72) (hts _ m_e6bd7a2e) (hts _ m_a9e3d950) (xt_sigOf (hts _ m_6c6d2858)) nm_M_thrown (by rw [hT]; exact ra9) rb9 rc9 (g := F0 m 1146 ls [.ref x2]) rfl (argsL := []) (rest := []) rfl rfl (by rw [hb]; exact (xb_d D_Law_law 665 rfl))) (ok_M_thrown l hfl D A σ x2 h267 _ hw) (hml.trans hl.1.symm) (by rw [hb]; exact (xb_d D_Law_law 665 rfl)) (Nat.le_of_ble_eq_true rfl) (Nat.le_of_ble_eq_true rfl) (Nat.le_of_ble_eq_true rfl) (show (k + kk263) ≤ MC by omega) (show (n + nn263) ≤ MS by omega) (xt_w1 hB.1 m_6c6d2858) (xt_cdOf hB.1 m_6c6d2858) (hts _ m_d5ed7bed) hB hR hS hA (fun vv h269 H locs hq hEh269 hR hS => ?_)
          obtain ⟨r270, rfl, hw⟩ := hq
          have hw := hw hEh269
          have hE := hE.tr hEh269
          refine W.eq (g2 := F0 m 1149 ls [.int r270]) rfl ?_
          refine lv_iload hx hb (xb_d D_Law_law 666 rfl) (lv_at hl 1 rfl) ?_
          refine lv_icmp_eq (tgt := 1156) hx hb (xb_d D_Law_law 667 rfl) rfl (fun hc271 => ?_) (fun hc271 => ?_)
          · have hw := hw.1 hc271
            refine lv_iload hx hb (xb_d D_Law_law 670 rfl) (lv_at hl 1 rfl) ?_
            refine lv_if_ne (tgt := 1173) hx hb (xb_d D_Law_law 671 rfl) rfl (fun hc272 => ?_) (fun hc272 => ?_)
            · have hw := hw.1 hc272
              exact am_Law_law_L1173 l hfl D A σ L xs MC MS h0 Qr (w2_Law_law_L23 σ L xs Qr n9) ih x0 x1 x2 x3 x4 h269 bc263 bs263 hw p e s m args below meth c hC hX9 H locs ls (k + kk263) (n + nn263) hE (lv_sub hl [2, 3, 4, 5, 6] rfl) hR hS (by omega) (by omega)
            · have hw := hw.2 hc272
              refine lv_aload_n hx hb (xb_d D_Law_law 672 rfl) rfl (lv_at hl 5 rfl) ?_
              refine lv_iconst (v := 0) hx hb (xb_d D_Law_law 673 rfl) (by decide) ?_
              obtain ⟨hk274, hw⟩ := hw
              obtain ⟨hi273, hw⟩ := hw
              refine xb_lald hx hb hR hk274 hi273 (xb_d D_Law_law 674 rfl) ?_
              refine xt_numl (y := (xb_l h269 x3 0)) (congrArg (xb_l h269 x3) (by decide : (0 : Int32).toNatClampNeg = 0)) ?_
              refine lv_iload hx hb (xb_d D_Law_law 675 rfl) (lv_at hl 0 rfl) ?_
              refine lv_i2l hx hb (xb_d D_Law_law 676 rfl) rfl ?_
              refine xb_lc_eq (tgt := 1173) hx hb (xb_d D_Law_law 677 rfl) (xb_d D_Law_law 678 rfl) rfl (fun hc275 => ?_) (fun hc275 => ?_)
              · have hw := hw.1 hc275
                exact am_Law_law_L1173 l hfl D A σ L xs MC MS h0 Qr (w2_Law_law_L23 σ L xs Qr n9) ih x0 x1 x2 x3 x4 h269 bc263 bs263 hw p e s m args below meth c hC hX9 H locs ls (k + kk263) (n + nn263) hE (lv_sub hl [2, 3, 4, 5, 6] rfl) hR hS (by omega) (by omega)
              · have hw := hw.2 hc275
                refine lv_iconst (v := 0) hx hb (xb_d D_Law_law 679 rfl) (by decide) ?_
                exact xb_zret bc263 bs263 hx hb hr hlocks (show (k + kk263) + bc263 ≤ MC by omega) (show (n + nn263) + bs263 ≤ MS by omega) (by decide) hE hR hS (xb_d D_Law_law 680 rfl) hw
          · have hw := hw.2 hc271
            refine lv_iconst (v := 0) hx hb (xb_d D_Law_law 668 rfl) (by decide) ?_
            exact xb_zret bc263 bs263 hx hb hr hlocks (show (k + kk263) + bc263 ≤ MC by omega) (show (n + nn263) + bs263 ≤ MS by omega) (by decide) hE hR hS (xb_d D_Law_law 669 rfl) hw
        · exact False.elim hq
      have hw := hw.2
      by_cases hc276 : ((xs (Int32.toNatClampNeg x4)) &&& 31) = 19
      · have hw := hw.1 hc276
        refine xt_numi hc276 ?_
        refine lv_tableIn (off := 1136) (tgt := 1176) hx hb (xb_d D_Law_law 24 rfl) (by decide +kernel) (by decide +kernel) (by decide +kernel) (by decide) ?_
        refine lv_aload_n hx hb (xb_d D_Law_law 682 rfl) rfl (lv_at hl 1 rfl) ?_
        refine lv_aload_n hx hb (xb_d D_Law_law 683 rfl) rfl (lv_at hl 0 rfl) ?_
        refine lv_iload hx hb (xb_d D_Law_law 684 rfl) (lv_at hl 4 rfl) ?_
        refine lv_iconst (v := 1) hx hb (xb_d D_Law_law 685 rfl) (by decide) ?_
        refine lv_iadd hx hb (xb_d D_Law_law 686 rfl) ?_
        obtain ⟨hi277, hw⟩ := hw
        refine va_sld hx hb hX hbl hbA hS hi277 (xb_d D_Law_law 687 rfl) ?_
        refine lv_aload_n hx hb (xb_d D_Law_law 688 rfl) rfl (lv_at hl 0 rfl) ?_
        refine lv_iload hx hb (xb_d D_Law_law 689 rfl) (lv_at hl 4 rfl) ?_
        refine lv_iconst (v := 2) hx hb (xb_d D_Law_law 690 rfl) (by decide) ?_
        refine lv_iadd hx hb (xb_d D_Law_law 691 rfl) ?_
        obtain ⟨hi278, hw⟩ := hw
        refine va_sld hx hb hX hbl hbA hS hi278 (xb_d D_Law_law 692 rfl) ?_
        refine lv_aload_n hx hb (xb_d D_Law_law 693 rfl) rfl (lv_at hl 0 rfl) ?_
        refine lv_iload hx hb (xb_d D_Law_law 694 rfl) (lv_at hl 4 rfl) ?_
        refine lv_iconst (v := 3) hx hb (xb_d D_Law_law 695 rfl) (by decide) ?_
        refine lv_iadd hx hb (xb_d D_Law_law 696 rfl) ?_
        obtain ⟨hi279, hw⟩ := hw
        refine va_sld hx hb hX hbl hbA hS hi279 (xb_d D_Law_law 697 rfl) ?_
        refine xb_call (D := D) (A := A) (σ := σ) (h := h) (d := 5) (mc := bc) (ms := bs) (maxL := 5) (rest := []) (av := [.ref x1, .int (xs (Int32.toNatClampNeg (x4 + 1))), .int (xs (Int32.toNatClampNeg (x4 + 2))), .int (xs (Int32.toNatClampNeg (x4 + 3)))]) (fun T hT X => xt_invS X hx hown (hts _ m_520ff94b) (hts _ m_d97d1e9a) (hts _ m_6445b362) (xt_sgSH (hts _ m_89f22d82)).1 (xt_sgSH (hts _ m_89f22d82)).2 nm_Law_poke (g := F0 m 1195 ls [.int (xs (Int32.toNatClampNeg (x4 + 3))), .int (xs (Int32.toNatClampNeg (x4 + 2))), .int (xs (Int32.toNatClampNeg (x4 + 1))), .ref x1]) rfl (argsL := [.ref x1, .int (xs (Int32.toNatClampNeg (x4 + 1))), .int (xs (Int32.toNatClampNeg (x4 + 2))), .int (xs (Int32.toNatClampNeg (x4 + 3)))]) (rest := []) rfl rfl (by rw [hb]; exact (xb_d D_Law_law 698 rfl))) (ok_Law_poke l hfl D A σ x1 (xs (Int32.toNatClampNeg (x4 + 1))) (xs (Int32.toNatClampNeg (x4 + 2))) (xs (Int32.toNatClampNeg (x4 + 3))) h bc bs _ hw) (hml.trans hl.1.symm) (by rw [hb]; exact (xb_d D_Law_law 698 rfl)) (Nat.le_of_ble_eq_true rfl) (Nat.le_of_ble_eq_true rfl) (Nat.le_of_ble_eq_true rfl) (show k + bc ≤ MC by omega) (show n + bs ≤ MS by omega) (xt_w1 hB.1 m_89f22d82) (xt_cdOfH hB.1 m_89f22d82) (hts _ m_6445b362) hB hR hS hA (fun vv h280 bc281 bs281 kk281 nn281 H locs hk281 hn281 hq hEh280 hR hS => ?_) (fun XX ax h280 bc281 bs281 kk281 nn281 H locs hk281 hn281 hq hEh280 hex hR hS => ?_)
        · obtain ⟨r281, rfl, hw⟩ := hq
          have hw := hw hEh280
          have hE := hE.tr hEh280
          refine W.eq (g2 := F0 m 1198 ls [.int r281]) rfl ?_
          refine lv_istore hx hb (xb_d D_Law_law 699 rfl) hl (by decide) rfl (fun ls hl => ?_)
          have hl : lv_has ls 8 [(5, .int r281), (0, .ref x0), (1, .ref x1), (2, .ref x2), (3, .ref x3), (4, .int x4)] := hl
          refine lv_aload_n hx hb (xb_d D_Law_law 700 rfl) rfl (lv_at hl 3 rfl) ?_
          refine lv_aload_n hx hb (xb_d D_Law_law 701 rfl) rfl (lv_at hl 1 rfl) ?_
          refine lv_iload hx hb (xb_d D_Law_law 702 rfl) (lv_at hl 5 rfl) ?_
          refine lv_iconst (v := 1) hx hb (xb_d D_Law_law 703 rfl) (by decide) ?_
          refine lv_iadd hx hb (xb_d D_Law_law 704 rfl) ?_
          obtain ⟨hi282, hw⟩ := hw
          refine va_sld hx hb hX hbl hbA hS hi282 (xb_d D_Law_law 705 rfl) ?_
          refine lv_aload_n hx hb (xb_d D_Law_law 706 rfl) rfl (lv_at hl 1 rfl) ?_
          refine lv_iload hx hb (xb_d D_Law_law 707 rfl) (lv_at hl 5 rfl) ?_
          refine lv_iconst (v := 2) hx hb (xb_d D_Law_law 708 rfl) (by decide) ?_
          refine lv_iadd hx hb (xb_d D_Law_law 709 rfl) ?_
          obtain ⟨hi283, hw⟩ := hw
          refine va_sld hx hb hX hbl hbA hS hi283 (xb_d D_Law_law 710 rfl) ?_
          refine lv_aload_n hx hb (xb_d D_Law_law 711 rfl) rfl (lv_at hl 1 rfl) ?_
          refine lv_iload hx hb (xb_d D_Law_law 712 rfl) (lv_at hl 5 rfl) ?_
          refine lv_iconst (v := 3) hx hb (xb_d D_Law_law 713 rfl) (by decide) ?_
          refine lv_iadd hx hb (xb_d D_Law_law 714 rfl) ?_
          obtain ⟨hi284, hw⟩ := hw
          refine va_sld hx hb hX hbl hbA hS hi284 (xb_d D_Law_law 715 rfl) ?_
          obtain ⟨hk285, hw⟩ := hw
          refine xb_call0 (D := D) (A := A) (σ := σ) (h := h280) (d := 11) (maxL := 4) (rest := []) (av := [.ref x2, .int (xs (Int32.toNatClampNeg (x4 + 1))), .int (xs (Int32.toNatClampNeg (x4 + 2))), .int (xs (Int32.toNatClampNeg (x4 + 3)))]) (fun T hT X => by obtain ⟨cb9, ra9, rb9, rc9⟩ := xb_recv (ci := 8) hR rfl hk285 (by decide); exact xt_invV X hx hown (hts _ m_38a9e537) (hts _ m_e7c94f39) (hts _ m_b52df5e7) (xt_sigOf (hts _ m_6c937a06)) nm_M_poke (by rw [hT]; exact ra9) rb9 rc9 (g := F0 m 1219 ls [.int (xs (Int32.toNatClampNeg (x4 + 3))), .int (xs (Int32.toNatClampNeg (x4 + 2))), .int (xs (Int32.toNatClampNeg (x4 + 1))), .ref x2]) rfl (argsL := [.int (xs (Int32.toNatClampNeg (x4 + 1))), .int (xs (Int32.toNatClampNeg (x4 + 2))), .int (xs (Int32.toNatClampNeg (x4 + 3)))]) (rest := []) rfl rfl (by rw [hb]; exact (xb_d D_Law_law 716 rfl))) (ok_M_poke l hfl D A σ x2 (xs (Int32.toNatClampNeg (x4 + 1))) (xs (Int32.toNatClampNeg (x4 + 2))) (xs (Int32.toNatClampNeg (x4 + 3))) h280 _ hw) (hml.trans hl.1.symm) (by rw [hb]; exact (xb_d D_Law_law 716 rfl)) (Nat.le_of_ble_eq_true rfl) (Nat.le_of_ble_eq_true rfl) (Nat.le_of_ble_eq_true rfl) (show (k + kk281) ≤ MC by omega) (show (n + nn281) ≤ MS by omega) (xt_w1 hB.1 m_6c937a06) (xt_cdOf hB.1 m_6c937a06) (hts _ m_d5ed7bed) hB hR hS hA (fun vv h286 H locs hq hEh286 hR hS => ?_)
          obtain ⟨rfl, hw⟩ := hq
          have hw := hw hEh286
          have hE := hE.tr hEh286
          refine W.eq (g2 := F0 m 1222 ls []) rfl ?_
          refine lv_aload_n hx hb (xb_d D_Law_law 717 rfl) rfl (lv_at hl 3 rfl) ?_
          have hk285 : xb_k h286 x2 = 9 := hEh286.k hk285
          refine xb_call0 (D := D) (A := A) (σ := σ) (h := h286) (d := 2) (maxL := 1) (rest := []) (av := [.ref x2]) (fun T hT X => by obtain ⟨cb9, ra9, rb9, rc9⟩ := xb_recv (ci := 8) hR rfl hk285 (by decide); exact xt_invV X hx hown (hts _ m_4e0e8e72) (hts _ m_e6bd7a2e) (hts _ m_a9e3d950) (xt_sigOf (hts _ m_6c6d2858)) nm_M_thrown (by rw [hT]; exact ra9) rb9 rc9 (g := F0 m 1223 ls [.ref x2]) rfl (argsL := []) (rest := []) rfl rfl (by rw [hb]; exact (xb_d D_Law_law 718 rfl))) (ok_M_thrown l hfl D A σ x2 h286 _ hw) (hml.trans hl.1.symm) (by rw [hb]; exact (xb_d D_Law_law 718 rfl)) (Nat.le_of_ble_eq_true rfl) (Nat.le_of_ble_eq_true rfl) (Nat.le_of_ble_eq_true rfl) (show (k + kk281) ≤ MC by omega) (show (n + nn281) ≤ MS by omega) (xt_w1 hB.1 m_6c6d2858) (xt_cdOf hB.1 m_6c6d2858) (hts _ m_d5ed7bed) hB hR hS hA (fun vv h288 H locs hq hEh288 hR hS => ?_)
          obtain ⟨r289, rfl, hw⟩ := hq
          have hw := hw hEh288
          have hE := hE.tr hEh288
          refine W.eq (g2 := F0 m 1226 ls [.int r289]) rfl ?_
          refine lv_iload hx hb (xb_d D_Law_law 719 rfl) (lv_at hl 0 rfl) ?_
          refine lv_icmp_eq (tgt := 1233) hx hb (xb_d D_Law_law 720 rfl) rfl (fun hc290 => ?_) (fun hc290 => ?_)
          · have hw := hw.1 hc290
            refine lv_goto (tgt := 1465) hx hb (xb_d D_Law_law 723 rfl) rfl ?_
            exact am_Law_law_L1465 l hfl D A σ L xs MC MS h0 Qr (w2_Law_law_L23 σ L xs Qr n9) ih x0 x1 x2 x3 x4 h288 bc281 bs281 hw p e s m args below meth c hC hX9 H locs ls (k + kk281) (n + nn281) hE (lv_sub hl [1, 2, 3, 4, 5] rfl) hR hS (by omega) (by omega)
          · have hw := hw.2 hc290
            refine lv_iconst (v := 0) hx hb (xb_d D_Law_law 721 rfl) (by decide) ?_
            exact xb_zret bc281 bs281 hx hb hr hlocks (show (k + kk281) + bc281 ≤ MC by omega) (show (n + nn281) + bs281 ≤ MS by omega) (by decide) hE hR hS (xb_d D_Law_law 722 rfl) hw
        · exact False.elim hq
      have hw := hw.2
      by_cases hc291 : ((xs (Int32.toNatClampNeg x4)) &&& 31) = 20
      · have hw := hw.1 hc291
        refine xt_numi hc291 ?_
        refine lv_tableIn (off := 1196) (tgt := 1236) hx hb (xb_d D_Law_law 24 rfl) (by decide +kernel) (by decide +kernel) (by decide +kernel) (by decide) ?_
        refine lv_aload_n hx hb (xb_d D_Law_law 724 rfl) rfl (lv_at hl 1 rfl) ?_
        refine lv_aload_n hx hb (xb_d D_Law_law 725 rfl) rfl (lv_at hl 0 rfl) ?_
        refine lv_iload hx hb (xb_d D_Law_law 726 rfl) (lv_at hl 4 rfl) ?_
        refine lv_iconst (v := 1) hx hb (xb_d D_Law_law 727 rfl) (by decide) ?_
        refine lv_iadd hx hb (xb_d D_Law_law 728 rfl) ?_
        obtain ⟨hi292, hw⟩ := hw
        refine va_sld hx hb hX hbl hbA hS hi292 (xb_d D_Law_law 729 rfl) ?_
        refine lv_aload_n hx hb (xb_d D_Law_law 730 rfl) rfl (lv_at hl 0 rfl) ?_
        refine lv_iload hx hb (xb_d D_Law_law 731 rfl) (lv_at hl 4 rfl) ?_
        refine lv_iconst (v := 2) hx hb (xb_d D_Law_law 732 rfl) (by decide) ?_
        refine lv_iadd hx hb (xb_d D_Law_law 733 rfl) ?_
        obtain ⟨hi293, hw⟩ := hw
        refine va_sld hx hb hX hbl hbA hS hi293 (xb_d D_Law_law 734 rfl) ?_
        refine lv_aload_n hx hb (xb_d D_Law_law 735 rfl) rfl (lv_at hl 3 rfl) ?_
        refine xb_call (D := D) (A := A) (σ := σ) (h := h) (d := 4) (mc := bc) (ms := bs) (maxL := 5) (rest := []) (av := [.ref x1, .int (xs (Int32.toNatClampNeg (x4 + 1))), .int (xs (Int32.toNatClampNeg (x4 + 2))), .ref x3]) (fun T hT X => xt_invS X hx hown (hts _ m_54e8aee8) (hts _ m_29d2e7ef) (hts _ m_6445b362) (xt_sgSH (hts _ m_b0ca8295)).1 (xt_sgSH (hts _ m_b0ca8295)).2 nm_Law_variable (g := F0 m 1250 ls [.ref x3, .int (xs (Int32.toNatClampNeg (x4 + 2))), .int (xs (Int32.toNatClampNeg (x4 + 1))), .ref x1]) rfl (argsL := [.ref x1, .int (xs (Int32.toNatClampNeg (x4 + 1))), .int (xs (Int32.toNatClampNeg (x4 + 2))), .ref x3]) (rest := []) rfl rfl (by rw [hb]; exact (xb_d D_Law_law 736 rfl))) (ok_Law_variable l hfl D A σ x1 (xs (Int32.toNatClampNeg (x4 + 1))) (xs (Int32.toNatClampNeg (x4 + 2))) x3 h bc bs _ hw) (hml.trans hl.1.symm) (by rw [hb]; exact (xb_d D_Law_law 736 rfl)) (Nat.le_of_ble_eq_true rfl) (Nat.le_of_ble_eq_true rfl) (Nat.le_of_ble_eq_true rfl) (show k + bc ≤ MC by omega) (show n + bs ≤ MS by omega) (xt_w1 hB.1 m_b0ca8295) (xt_cdOfH hB.1 m_b0ca8295) (hts _ m_6445b362) hB hR hS hA (fun vv h294 bc295 bs295 kk295 nn295 H locs hk295 hn295 hq hEh294 hR hS => ?_) (fun XX ax h294 bc295 bs295 kk295 nn295 H locs hk295 hn295 hq hEh294 hex hR hS => ?_)
        · obtain ⟨r295, rfl, hw⟩ := hq
          have hw := hw hEh294
          have hE := hE.tr hEh294
          refine W.eq (g2 := F0 m 1253 ls [.int r295]) rfl ?_
          refine lv_istore hx hb (xb_d D_Law_law 737 rfl) hl (by decide) rfl (fun ls hl => ?_)
          have hl : lv_has ls 8 [(5, .int r295), (0, .ref x0), (1, .ref x1), (2, .ref x2), (3, .ref x3), (4, .int x4)] := hl
          refine lv_aload_n hx hb (xb_d D_Law_law 738 rfl) rfl (lv_at hl 3 rfl) ?_
          refine lv_aload_n hx hb (xb_d D_Law_law 739 rfl) rfl (lv_at hl 1 rfl) ?_
          refine lv_iload hx hb (xb_d D_Law_law 740 rfl) (lv_at hl 5 rfl) ?_
          refine lv_iconst (v := 1) hx hb (xb_d D_Law_law 741 rfl) (by decide) ?_
          refine lv_iadd hx hb (xb_d D_Law_law 742 rfl) ?_
          obtain ⟨hi296, hw⟩ := hw
          refine va_sld hx hb hX hbl hbA hS hi296 (xb_d D_Law_law 743 rfl) ?_
          refine lv_aload_n hx hb (xb_d D_Law_law 744 rfl) rfl (lv_at hl 1 rfl) ?_
          refine lv_iload hx hb (xb_d D_Law_law 745 rfl) (lv_at hl 5 rfl) ?_
          refine lv_iconst (v := 2) hx hb (xb_d D_Law_law 746 rfl) (by decide) ?_
          refine lv_iadd hx hb (xb_d D_Law_law 747 rfl) ?_
          obtain ⟨hi297, hw⟩ := hw
          refine va_sld hx hb hX hbl hbA hS hi297 (xb_d D_Law_law 748 rfl) ?_
          obtain ⟨hk298, hw⟩ := hw
          refine xb_call0 (D := D) (A := A) (σ := σ) (h := h294) (d := 9) (maxL := 3) (rest := []) (av := [.ref x2, .int (xs (Int32.toNatClampNeg (x4 + 1))), .int (xs (Int32.toNatClampNeg (x4 + 2)))]) (fun T hT X => by obtain ⟨cb9, ra9, rb9, rc9⟩ := xb_recv (ci := 8) hR rfl hk298 (by decide); exact xt_invV X hx hown (hts _ m_d04f613e) (hts _ m_f3c40a50) (hts _ m_aa28356f) (xt_sigOf (hts _ m_476d6619)) nm_M_variable (by rw [hT]; exact ra9) rb9 rc9 (g := F0 m 1268 ls [.int (xs (Int32.toNatClampNeg (x4 + 2))), .int (xs (Int32.toNatClampNeg (x4 + 1))), .ref x2]) rfl (argsL := [.int (xs (Int32.toNatClampNeg (x4 + 1))), .int (xs (Int32.toNatClampNeg (x4 + 2)))]) (rest := []) rfl rfl (by rw [hb]; exact (xb_d D_Law_law 749 rfl))) (ok_M_variable l hfl D A σ x2 (xs (Int32.toNatClampNeg (x4 + 1))) (xs (Int32.toNatClampNeg (x4 + 2))) h294 _ hw) (hml.trans hl.1.symm) (by rw [hb]; exact (xb_d D_Law_law 749 rfl)) (Nat.le_of_ble_eq_true rfl) (Nat.le_of_ble_eq_true rfl) (Nat.le_of_ble_eq_true rfl) (show (k + kk295) ≤ MC by omega) (show (n + nn295) ≤ MS by omega) (xt_w1 hB.1 m_476d6619) (xt_cdOf hB.1 m_476d6619) (hts _ m_d5ed7bed) hB hR hS hA (fun vv h299 H locs hq hEh299 hR hS => ?_)
          obtain ⟨r300, rfl, hw⟩ := hq
          have hw := hw hEh299
          have hE := hE.tr hEh299
          refine W.eq (g2 := F0 m 1271 ls [.long r300]) rfl ?_
          refine lv_lstore hx hb (xb_d D_Law_law 750 rfl) hl (by decide) rfl (fun ls hl => ?_)
          have hl : lv_has ls 8 [(6, .long r300), (5, .int r295), (0, .ref x0), (1, .ref x1), (2, .ref x2), (3, .ref x3), (4, .int x4)] := hl
          refine lv_aload_n hx hb (xb_d D_Law_law 751 rfl) rfl (lv_at hl 4 rfl) ?_
          have hk298 : xb_k h299 x2 = 9 := hEh299.k hk298
          refine xb_call0 (D := D) (A := A) (σ := σ) (h := h299) (d := 2) (maxL := 1) (rest := []) (av := [.ref x2]) (fun T hT X => by obtain ⟨cb9, ra9, rb9, rc9⟩ := xb_recv (ci := 8) hR rfl hk298 (by decide); exact xt_invV X hx hown (hts _ m_4e0e8e72) (hts _ m_e6bd7a2e) (hts _ m_a9e3d950) (xt_sigOf (hts _ m_6c6d2858)) nm_M_thrown (by rw [hT]; exact ra9) rb9 rc9 (g := F0 m 1274 ls [.ref x2]) rfl (argsL := []) (rest := []) rfl rfl (by rw [hb]; exact (xb_d D_Law_law 752 rfl))) (ok_M_thrown l hfl D A σ x2 h299 _ hw) (hml.trans hl.1.symm) (by rw [hb]; exact (xb_d D_Law_law 752 rfl)) (Nat.le_of_ble_eq_true rfl) (Nat.le_of_ble_eq_true rfl) (Nat.le_of_ble_eq_true rfl) (show (k + kk295) ≤ MC by omega) (show (n + nn295) ≤ MS by omega) (xt_w1 hB.1 m_6c6d2858) (xt_cdOf hB.1 m_6c6d2858) (hts _ m_d5ed7bed) hB hR hS hA (fun vv h301 H locs hq hEh301 hR hS => ?_)
          obtain ⟨r302, rfl, hw⟩ := hq
          have hw := hw hEh301
          have hE := hE.tr hEh301
          refine W.eq (g2 := F0 m 1277 ls [.int r302]) rfl ?_
          refine lv_iload hx hb (xb_d D_Law_law 753 rfl) (lv_at hl 1 rfl) ?_
          refine lv_icmp_eq (tgt := 1284) hx hb (xb_d D_Law_law 754 rfl) rfl (fun hc303 => ?_) (fun hc303 => ?_)
          · have hw := hw.1 hc303
            refine lv_iload hx hb (xb_d D_Law_law 757 rfl) (lv_at hl 1 rfl) ?_
            refine lv_if_ne (tgt := 1300) hx hb (xb_d D_Law_law 758 rfl) rfl (fun hc304 => ?_) (fun hc304 => ?_)
            · have hw := hw.1 hc304
              exact am_Law_law_L1300 l hfl D A σ L xs MC MS h0 Qr (w2_Law_law_L23 σ L xs Qr n9) ih x0 x1 x2 x3 x4 h301 bc295 bs295 hw p e s m args below meth c hC hX9 H locs ls (k + kk295) (n + nn295) hE (lv_sub hl [2, 3, 4, 5, 6] rfl) hR hS (by omega) (by omega)
            · have hw := hw.2 hc304
              refine lv_aload_n hx hb (xb_d D_Law_law 759 rfl) rfl (lv_at hl 5 rfl) ?_
              refine lv_iconst (v := 0) hx hb (xb_d D_Law_law 760 rfl) (by decide) ?_
              obtain ⟨hk306, hw⟩ := hw
              obtain ⟨hi305, hw⟩ := hw
              refine xb_lald hx hb hR hk306 hi305 (xb_d D_Law_law 761 rfl) ?_
              refine xt_numl (y := (xb_l h301 x3 0)) (congrArg (xb_l h301 x3) (by decide : (0 : Int32).toNatClampNeg = 0)) ?_
              refine lv_lload hx hb (xb_d D_Law_law 762 rfl) (lv_at hl 0 rfl) ?_
              refine xb_lc_eq (tgt := 1300) hx hb (xb_d D_Law_law 763 rfl) (xb_d D_Law_law 764 rfl) rfl (fun hc307 => ?_) (fun hc307 => ?_)
              · have hw := hw.1 hc307
                exact am_Law_law_L1300 l hfl D A σ L xs MC MS h0 Qr (w2_Law_law_L23 σ L xs Qr n9) ih x0 x1 x2 x3 x4 h301 bc295 bs295 hw p e s m args below meth c hC hX9 H locs ls (k + kk295) (n + nn295) hE (lv_sub hl [2, 3, 4, 5, 6] rfl) hR hS (by omega) (by omega)
              · have hw := hw.2 hc307
                refine lv_iconst (v := 0) hx hb (xb_d D_Law_law 765 rfl) (by decide) ?_
                exact xb_zret bc295 bs295 hx hb hr hlocks (show (k + kk295) + bc295 ≤ MC by omega) (show (n + nn295) + bs295 ≤ MS by omega) (by decide) hE hR hS (xb_d D_Law_law 766 rfl) hw
          · have hw := hw.2 hc303
            refine lv_iconst (v := 0) hx hb (xb_d D_Law_law 755 rfl) (by decide) ?_
            exact xb_zret bc295 bs295 hx hb hr hlocks (show (k + kk295) + bc295 ≤ MC by omega) (show (n + nn295) + bs295 ≤ MS by omega) (by decide) hE hR hS (xb_d D_Law_law 756 rfl) hw
        · exact False.elim hq
      have hw := hw.2
      by_cases hc308 : ((xs (Int32.toNatClampNeg x4)) &&& 31) = 21
      · have hw := hw.1 hc308
        refine xt_numi hc308 ?_
        refine lv_tableIn (off := 1263) (tgt := 1303) hx hb (xb_d D_Law_law 24 rfl) (by decide +kernel) (by decide +kernel) (by decide +kernel) (by decide) ?_
        refine lv_aload_n hx hb (xb_d D_Law_law 768 rfl) rfl (lv_at hl 1 rfl) ?_
        refine lv_aload_n hx hb (xb_d D_Law_law 769 rfl) rfl (lv_at hl 0 rfl) ?_
        refine lv_iload hx hb (xb_d D_Law_law 770 rfl) (lv_at hl 4 rfl) ?_
        refine lv_iconst (v := 1) hx hb (xb_d D_Law_law 771 rfl) (by decide) ?_
        refine lv_iadd hx hb (xb_d D_Law_law 772 rfl) ?_
        obtain ⟨hi309, hw⟩ := hw
        refine va_sld hx hb hX hbl hbA hS hi309 (xb_d D_Law_law 773 rfl) ?_
        refine lv_aload_n hx hb (xb_d D_Law_law 774 rfl) rfl (lv_at hl 0 rfl) ?_
        refine lv_iload hx hb (xb_d D_Law_law 775 rfl) (lv_at hl 4 rfl) ?_
        refine lv_iconst (v := 2) hx hb (xb_d D_Law_law 776 rfl) (by decide) ?_
        refine lv_iadd hx hb (xb_d D_Law_law 777 rfl) ?_
        obtain ⟨hi310, hw⟩ := hw
        refine va_sld hx hb hX hbl hbA hS hi310 (xb_d D_Law_law 778 rfl) ?_
        refine lv_aload_n hx hb (xb_d D_Law_law 779 rfl) rfl (lv_at hl 3 rfl) ?_
        refine xb_call (D := D) (A := A) (σ := σ) (h := h) (d := 5) (mc := bc) (ms := bs) (maxL := 5) (rest := []) (av := [.ref x1, .int (xs (Int32.toNatClampNeg (x4 + 1))), .int (xs (Int32.toNatClampNeg (x4 + 2))), .ref x3]) (fun T hT X => xt_invS X hx hown (hts _ m_39d675dc) (hts _ m_b2c75aa2) (hts _ m_6445b362) (xt_sgSH (hts _ m_28067eb6)).1 (xt_sgSH (hts _ m_28067eb6)).2 nm_Law_element (g := F0 m 1317 ls [.ref x3, .int (xs (Int32.toNatClampNeg (x4 + 2))), .int (xs (Int32.toNatClampNeg (x4 + 1))), .ref x1]) rfl (argsL := [.ref x1, .int (xs (Int32.toNatClampNeg (x4 + 1))), .int (xs (Int32.toNatClampNeg (x4 + 2))), .ref x3]) (rest := []) rfl rfl (by rw [hb]; exact (xb_d D_Law_law 780 rfl))) (ok_Law_element l hfl D A σ x1 (xs (Int32.toNatClampNeg (x4 + 1))) (xs (Int32.toNatClampNeg (x4 + 2))) x3 h bc bs _ hw) (hml.trans hl.1.symm) (by rw [hb]; exact (xb_d D_Law_law 780 rfl)) (Nat.le_of_ble_eq_true rfl) (Nat.le_of_ble_eq_true rfl) (Nat.le_of_ble_eq_true rfl) (show k + bc ≤ MC by omega) (show n + bs ≤ MS by omega) (xt_w1 hB.1 m_28067eb6) (xt_cdOfH hB.1 m_28067eb6) (hts _ m_6445b362) hB hR hS hA (fun vv h311 bc312 bs312 kk312 nn312 H locs hk312 hn312 hq hEh311 hR hS => ?_) (fun XX ax h311 bc312 bs312 kk312 nn312 H locs hk312 hn312 hq hEh311 hex hR hS => ?_)
        · obtain ⟨r312, rfl, hw⟩ := hq
          have hw := hw hEh311
          have hE := hE.tr hEh311
          refine W.eq (g2 := F0 m 1320 ls [.int r312]) rfl ?_
          refine lv_istore hx hb (xb_d D_Law_law 781 rfl) hl (by decide) rfl (fun ls hl => ?_)
          have hl : lv_has ls 8 [(5, .int r312), (0, .ref x0), (1, .ref x1), (2, .ref x2), (3, .ref x3), (4, .int x4)] := hl
          refine lv_aload_n hx hb (xb_d D_Law_law 782 rfl) rfl (lv_at hl 3 rfl) ?_
          refine lv_aload_n hx hb (xb_d D_Law_law 783 rfl) rfl (lv_at hl 1 rfl) ?_
          refine lv_iload hx hb (xb_d D_Law_law 784 rfl) (lv_at hl 5 rfl) ?_
          refine lv_iconst (v := 1) hx hb (xb_d D_Law_law 785 rfl) (by decide) ?_
          refine lv_iadd hx hb (xb_d D_Law_law 786 rfl) ?_
          obtain ⟨hi313, hw⟩ := hw
          refine va_sld hx hb hX hbl hbA hS hi313 (xb_d D_Law_law 787 rfl) ?_
          refine lv_aload_n hx hb (xb_d D_Law_law 788 rfl) rfl (lv_at hl 1 rfl) ?_
          refine lv_iload hx hb (xb_d D_Law_law 789 rfl) (lv_at hl 5 rfl) ?_
          refine lv_iconst (v := 2) hx hb (xb_d D_Law_law 790 rfl) (by decide) ?_
          refine lv_iadd hx hb (xb_d D_Law_law 791 rfl) ?_
          obtain ⟨hi314, hw⟩ := hw
          refine va_sld hx hb hX hbl hbA hS hi314 (xb_d D_Law_law 792 rfl) ?_
          obtain ⟨hk315, hw⟩ := hw
          refine xb_call0 (D := D) (A := A) (σ := σ) (h := h311) (d := 10) (maxL := 5) (rest := []) (av := [.ref x2, .int (xs (Int32.toNatClampNeg (x4 + 1))), .int (xs (Int32.toNatClampNeg (x4 + 2)))]) (fun T hT X => by obtain ⟨cb9, ra9, rb9, rc9⟩ := xb_recv (ci := 8) hR rfl hk315 (by decide); exact xt_invV X hx hown (hts _ m_9ac91187) (hts _ m_d10d7564) (hts _ m_03e7aa3d) (xt_sigOf (hts _ m_bf8b0a28)) nm_M_element (by rw [hT]; exact ra9) rb9 rc9 (g := F0 m 1335 ls [.int (xs (Int32.toNatClampNeg (x4 + 2))), .int (xs (Int32.toNatClampNeg (x4 + 1))), .ref x2]) rfl (argsL := [.int (xs (Int32.toNatClampNeg (x4 + 1))), .int (xs (Int32.toNatClampNeg (x4 + 2)))]) (rest := []) rfl rfl (by rw [hb]; exact (xb_d D_Law_law 793 rfl))) (ok_M_element l hfl D A σ x2 (xs (Int32.toNatClampNeg (x4 + 1))) (xs (Int32.toNatClampNeg (x4 + 2))) h311 _ hw) (hml.trans hl.1.symm) (by rw [hb]; exact (xb_d D_Law_law 793 rfl)) (Nat.le_of_ble_eq_true rfl) (Nat.le_of_ble_eq_true rfl) (Nat.le_of_ble_eq_true rfl) (show (k + kk312) ≤ MC by omega) (show (n + nn312) ≤ MS by omega) (xt_w1 hB.1 m_bf8b0a28) (xt_cdOf hB.1 m_bf8b0a28) (hts _ m_d5ed7bed) hB hR hS hA (fun vv h316 H locs hq hEh316 hR hS => ?_)
          obtain ⟨r317, rfl, hw⟩ := hq
          have hw := hw hEh316
          have hE := hE.tr hEh316
          refine W.eq (g2 := F0 m 1338 ls [.int r317]) rfl ?_
          refine lv_istore hx hb (xb_d D_Law_law 794 rfl) hl (by decide) rfl (fun ls hl => ?_)
          have hl : lv_has ls 8 [(6, .int r317), (5, .int r312), (0, .ref x0), (1, .ref x1), (2, .ref x2), (3, .ref x3), (4, .int x4)] := hl
          refine lv_aload_n hx hb (xb_d D_Law_law 795 rfl) rfl (lv_at hl 4 rfl) ?_
          have hk315 : xb_k h316 x2 = 9 := hEh316.k hk315
          refine xb_call0 (D := D) (A := A) (σ := σ) (h := h316) (d := 2) (maxL := 1) (rest := []) (av := [.ref x2]) (fun T hT X => by obtain ⟨cb9, ra9, rb9, rc9⟩ := xb_recv (ci := 8) hR rfl hk315 (by decide); exact xt_invV X hx hown (hts _ m_4e0e8e72) (hts _ m_e6bd7a2e) (hts _ m_a9e3d950) (xt_sigOf (hts _ m_6c6d2858)) nm_M_thrown (by rw [hT]; exact ra9) rb9 rc9 (g := F0 m 1341 ls [.ref x2]) rfl (argsL := []) (rest := []) rfl rfl (by rw [hb]; exact (xb_d D_Law_law 796 rfl))) (ok_M_thrown l hfl D A σ x2 h316 _ hw) (hml.trans hl.1.symm) (by rw [hb]; exact (xb_d D_Law_law 796 rfl)) (Nat.le_of_ble_eq_true rfl) (Nat.le_of_ble_eq_true rfl) (Nat.le_of_ble_eq_true rfl) (show (k + kk312) ≤ MC by omega) (show (n + nn312) ≤ MS by omega) (xt_w1 hB.1 m_6c6d2858) (xt_cdOf hB.1 m_6c6d2858) (hts _ m_d5ed7bed) hB hR hS hA (fun vv h318 H locs hq hEh318 hR hS => ?_)
          obtain ⟨r319, rfl, hw⟩ := hq
          have hw := hw hEh318
          have hE := hE.tr hEh318
          refine W.eq (g2 := F0 m 1344 ls [.int r319]) rfl ?_
          refine lv_iload hx hb (xb_d D_Law_law 797 rfl) (lv_at hl 1 rfl) ?_
          refine lv_icmp_eq (tgt := 1351) hx hb (xb_d D_Law_law 798 rfl) rfl (fun hc320 => ?_) (fun hc320 => ?_)
          · have hw := hw.1 hc320
            refine lv_iload hx hb (xb_d D_Law_law 801 rfl) (lv_at hl 1 rfl) ?_
            refine lv_if_ne (tgt := 1368) hx hb (xb_d D_Law_law 802 rfl) rfl (fun hc321 => ?_) (fun hc321 => ?_)
            · have hw := hw.1 hc321
              exact am_Law_law_L1368 l hfl D A σ L xs MC MS h0 Qr (w2_Law_law_L23 σ L xs Qr n9) ih x0 x1 x2 x3 x4 h318 bc312 bs312 hw p e s m args below meth c hC hX9 H locs ls (k + kk312) (n + nn312) hE (lv_sub hl [2, 3, 4, 5, 6] rfl) hR hS (by omega) (by omega)
            · have hw := hw.2 hc321
              refine lv_aload_n hx hb (xb_d D_Law_law 803 rfl) rfl (lv_at hl 5 rfl) ?_
              refine lv_iconst (v := 0) hx hb (xb_d D_Law_law 804 rfl) (by decide) ?_
              obtain ⟨hk323, hw⟩ := hw
              obtain ⟨hi322, hw⟩ := hw
              refine xb_lald hx hb hR hk323 hi322 (xb_d D_Law_law 805 rfl) ?_
              refine xt_numl (y := (xb_l h318 x3 0)) (congrArg (xb_l h318 x3) (by decide : (0 : Int32).toNatClampNeg = 0)) ?_
              refine lv_iload hx hb (xb_d D_Law_law 806 rfl) (lv_at hl 0 rfl) ?_
              refine lv_i2l hx hb (xb_d D_Law_law 807 rfl) rfl ?_
              refine xb_lc_eq (tgt := 1368) hx hb (xb_d D_Law_law 808 rfl) (xb_d D_Law_law 809 rfl) rfl (fun hc324 => ?_) (fun hc324 => ?_)
              · have hw := hw.1 hc324
                exact am_Law_law_L1368 l hfl D A σ L xs MC MS h0 Qr (w2_Law_law_L23 σ L xs Qr n9) ih x0 x1 x2 x3 x4 h318 bc312 bs312 hw p e s m args below meth c hC hX9 H locs ls (k + kk312) (n + nn312) hE (lv_sub hl [2, 3, 4, 5, 6] rfl) hR hS (by omega) (by omega)
              · have hw := hw.2 hc324
                refine lv_iconst (v := 0) hx hb (xb_d D_Law_law 810 rfl) (by decide) ?_
                exact xb_zret bc312 bs312 hx hb hr hlocks (show (k + kk312) + bc312 ≤ MC by omega) (show (n + nn312) + bs312 ≤ MS by omega) (by decide) hE hR hS (xb_d D_Law_law 811 rfl) hw
          · have hw := hw.2 hc320
            refine lv_iconst (v := 0) hx hb (xb_d D_Law_law 799 rfl) (by decide) ?_
            exact xb_zret bc312 bs312 hx hb hr hlocks (show (k + kk312) + bc312 ≤ MC by omega) (show (n + nn312) + bs312 ≤ MS by omega) (by decide) hE hR hS (xb_d D_Law_law 800 rfl) hw
        · exact False.elim hq
      have hw := hw.2
      by_cases hc325 : ((xs (Int32.toNatClampNeg x4)) &&& 31) = 22
      · have hw := hw.1 hc325
        refine xt_numi hc325 ?_
        refine lv_tableIn (off := 1331) (tgt := 1371) hx hb (xb_d D_Law_law 24 rfl) (by decide +kernel) (by decide +kernel) (by decide +kernel) (by decide) ?_
        refine lv_aload_n hx hb (xb_d D_Law_law 813 rfl) rfl (lv_at hl 1 rfl) ?_
        obtain ⟨hk326, hw⟩ := hw
        refine xb_call0 (D := D) (A := A) (σ := σ) (h := h) (d := 2) (maxL := 1) (rest := []) (av := [.ref x1]) (fun T hT X => by obtain ⟨cb9, ra9, rb9, rc9⟩ := xb_recv (ci := 0) hR rfl hk326 (by decide); exact xt_invV X hx hown (hts _ m_7cde46e9) (hts _ m_9694c8f9) (hts _ m_ad7f2fdc) (xt_sigOf (hts _ m_dbbe4ed2)) nm_H_wrong (by rw [hT]; exact ra9) rb9 rc9 (g := F0 m 1372 ls [.ref x1]) rfl (argsL := []) (rest := []) rfl rfl (by rw [hb]; exact (xb_d D_Law_law 814 rfl))) (ok_H_wrong l hfl D A σ x1 h _ hw) (hml.trans hl.1.symm) (by rw [hb]; exact (xb_d D_Law_law 814 rfl)) (Nat.le_of_ble_eq_true rfl) (Nat.le_of_ble_eq_true rfl) (Nat.le_of_ble_eq_true rfl) (show k ≤ MC by omega) (show n ≤ MS by omega) (xt_w1 hB.1 m_dbbe4ed2) (xt_cdOf hB.1 m_dbbe4ed2) (hts _ m_ba0734f5) hB hR hS hA (fun vv h327 H locs hq hEh327 hR hS => ?_)
        obtain ⟨r328, rfl, hw⟩ := hq
        have hw := hw hEh327
        have hE := hE.tr hEh327
        refine W.eq (g2 := F0 m 1375 ls [.int r328]) rfl ?_
        refine lv_aload_n hx hb (xb_d D_Law_law 815 rfl) rfl (lv_at hl 2 rfl) ?_
        obtain ⟨hk329, hw⟩ := hw
        refine xb_call0 (D := D) (A := A) (σ := σ) (h := h327) (d := 2) (maxL := 1) (rest := [.int r328]) (av := [.ref x2]) (fun T hT X => by obtain ⟨cb9, ra9, rb9, rc9⟩ := xb_recv (ci := 8) hR rfl hk329 (by decide); exact xt_invV X hx hown (hts _ m_073fc6d8) (hts _ m_7fd08512) (hts _ m_b1a62b1d) (xt_sigOf (hts _ m_76c8c6f8)) nm_M_wrong (by rw [hT]; exact ra9) rb9 rc9 (g := F0 m 1376 ls [.ref x2, .int r328]) rfl (argsL := []) (rest := [.int r328]) rfl rfl (by rw [hb]; exact (xb_d D_Law_law 816 rfl))) (ok_M_wrong l hfl D A σ x2 h327 _ hw) (hml.trans hl.1.symm) (by rw [hb]; exact (xb_d D_Law_law 816 rfl)) (Nat.le_of_ble_eq_true rfl) (Nat.le_of_ble_eq_true rfl) (Nat.le_of_ble_eq_true rfl) (show k ≤ MC by omega) (show n ≤ MS by omega) (xt_w1 hB.1 m_76c8c6f8) (xt_cdOf hB.1 m_76c8c6f8) (hts _ m_d5ed7bed) hB hR hS hA (fun vv h330 H locs hq hEh330 hR hS => ?_)
        obtain ⟨r331, rfl, hw⟩ := hq
        have hw := hw hEh330
        have hE := hE.tr hEh330
        refine W.eq (g2 := F0 m 1379 ls [.int r331, .int r328]) rfl ?_
        refine lv_icmp_eq (tgt := 1465) hx hb (xb_d D_Law_law 817 rfl) rfl (fun hc332 => ?_) (fun hc332 => ?_)
        · have hw := hw.1 hc332
          exact am_Law_law_L1465 l hfl D A σ L xs MC MS h0 Qr (w2_Law_law_L23 σ L xs Qr n9) ih x0 x1 x2 x3 x4 h330 bc bs hw p e s m args below meth c hC hX9 H locs ls k n hE (lv_sub hl [0, 1, 2, 3, 4] rfl) hR hS (by omega) (by omega)
        · have hw := hw.2 hc332
          refine lv_iconst (v := 0) hx hb (xb_d D_Law_law 818 rfl) (by decide) ?_
          exact xb_zret bc bs hx hb hr hlocks (show k + bc ≤ MC by omega) (show n + bs ≤ MS by omega) (by decide) hE hR hS (xb_d D_Law_law 819 rfl) hw
      have hw := hw.2
      by_cases hc333 : ((xs (Int32.toNatClampNeg x4)) &&& 31) = 23
      · have hw := hw.1 hc333
        refine xt_numi hc333 ?_
        refine lv_tableIn (off := 1344) (tgt := 1384) hx hb (xb_d D_Law_law 24 rfl) (by decide +kernel) (by decide +kernel) (by decide +kernel) (by decide) ?_
        refine lv_aload_n hx hb (xb_d D_Law_law 820 rfl) rfl (lv_at hl 1 rfl) ?_
        obtain ⟨hk334, hw⟩ := hw
        refine xb_call0 (D := D) (A := A) (σ := σ) (h := h) (d := 2) (maxL := 1) (rest := []) (av := [.ref x1]) (fun T hT X => by obtain ⟨cb9, ra9, rb9, rc9⟩ := xb_recv (ci := 0) hR rfl hk334 (by decide); exact xt_invV X hx hown (hts _ m_2a774564) (hts _ m_9b2b2da6) (hts _ m_6177b437) (xt_sigOf (hts _ m_c07d7f52)) nm_H_outs (by rw [hT]; exact ra9) rb9 rc9 (g := F0 m 1385 ls [.ref x1]) rfl (argsL := []) (rest := []) rfl rfl (by rw [hb]; exact (xb_d D_Law_law 821 rfl))) (ok_H_outs l hfl D A σ x1 h _ hw) (hml.trans hl.1.symm) (by rw [hb]; exact (xb_d D_Law_law 821 rfl)) (Nat.le_of_ble_eq_true rfl) (Nat.le_of_ble_eq_true rfl) (Nat.le_of_ble_eq_true rfl) (show k ≤ MC by omega) (show n ≤ MS by omega) (xt_w1 hB.1 m_c07d7f52) (xt_cdOf hB.1 m_c07d7f52) (hts _ m_ba0734f5) hB hR hS hA (fun vv h335 H locs hq hEh335 hR hS => ?_)
        obtain ⟨r336, rfl, hw⟩ := hq
        have hw := hw hEh335
        have hE := hE.tr hEh335
        refine W.eq (g2 := F0 m 1388 ls [.int r336]) rfl ?_
        refine lv_aload_n hx hb (xb_d D_Law_law 822 rfl) rfl (lv_at hl 2 rfl) ?_
        obtain ⟨hk337, hw⟩ := hw
        refine xb_call0 (D := D) (A := A) (σ := σ) (h := h335) (d := 2) (maxL := 1) (rest := [.int r336]) (av := [.ref x2]) (fun T hT X => by obtain ⟨cb9, ra9, rb9, rc9⟩ := xb_recv (ci := 8) hR rfl hk337 (by decide); exact xt_invV X hx hown (hts _ m_6d1a02b8) (hts _ m_e4ab615e) (hts _ m_ae7bd9ff) (xt_sigOf (hts _ m_2e052e5c)) nm_M_outs (by rw [hT]; exact ra9) rb9 rc9 (g := F0 m 1389 ls [.ref x2, .int r336]) rfl (argsL := []) (rest := [.int r336]) rfl rfl (by rw [hb]; exact (xb_d D_Law_law 823 rfl))) (ok_M_outs l hfl D A σ x2 h335 _ hw) (hml.trans hl.1.symm) (by rw [hb]; exact (xb_d D_Law_law 823 rfl)) (Nat.le_of_ble_eq_true rfl) (Nat.le_of_ble_eq_true rfl) (Nat.le_of_ble_eq_true rfl) (show k ≤ MC by omega) (show n ≤ MS by omega) (xt_w1 hB.1 m_2e052e5c) (xt_cdOf hB.1 m_2e052e5c) (hts _ m_d5ed7bed) hB hR hS hA (fun vv h338 H locs hq hEh338 hR hS => ?_)
        obtain ⟨r339, rfl, hw⟩ := hq
        have hw := hw hEh338
        have hE := hE.tr hEh338
        refine W.eq (g2 := F0 m 1392 ls [.int r339, .int r336]) rfl ?_
        refine lv_icmp_eq (tgt := 1465) hx hb (xb_d D_Law_law 824 rfl) rfl (fun hc340 => ?_) (fun hc340 => ?_)
        · have hw := hw.1 hc340
          exact am_Law_law_L1465 l hfl D A σ L xs MC MS h0 Qr (w2_Law_law_L23 σ L xs Qr n9) ih x0 x1 x2 x3 x4 h338 bc bs hw p e s m args below meth c hC hX9 H locs ls k n hE (lv_sub hl [0, 1, 2, 3, 4] rfl) hR hS (by omega) (by omega)
        · have hw := hw.2 hc340
          refine lv_iconst (v := 0) hx hb (xb_d D_Law_law 825 rfl) (by decide) ?_
          exact xb_zret bc bs hx hb hr hlocks (show k + bc ≤ MC by omega) (show n + bs ≤ MS by omega) (by decide) hE hR hS (xb_d D_Law_law 826 rfl) hw
      have hw := hw.2
      by_cases hc341 : ((xs (Int32.toNatClampNeg x4)) &&& 31) = 24
      · have hw := hw.1 hc341
        refine xt_numi hc341 ?_
        refine lv_tableIn (off := 1357) (tgt := 1397) hx hb (xb_d D_Law_law 24 rfl) (by decide +kernel) (by decide +kernel) (by decide +kernel) (by decide) ?_
        refine lv_aload_n hx hb (xb_d D_Law_law 827 rfl) rfl (lv_at hl 1 rfl) ?_
        refine lv_aload_n hx hb (xb_d D_Law_law 828 rfl) rfl (lv_at hl 0 rfl) ?_
        refine lv_iload hx hb (xb_d D_Law_law 829 rfl) (lv_at hl 4 rfl) ?_
        refine lv_iconst (v := 1) hx hb (xb_d D_Law_law 830 rfl) (by decide) ?_
        refine lv_iadd hx hb (xb_d D_Law_law 831 rfl) ?_
        obtain ⟨hi342, hw⟩ := hw
        refine va_sld hx hb hX hbl hbA hS hi342 (xb_d D_Law_law 832 rfl) ?_
        refine lv_aload_n hx hb (xb_d D_Law_law 833 rfl) rfl (lv_at hl 3 rfl) ?_
        refine xb_call (D := D) (A := A) (σ := σ) (h := h) (d := 3) (mc := bc) (ms := bs) (maxL := 4) (rest := []) (av := [.ref x1, .int (xs (Int32.toNatClampNeg (x4 + 1))), .ref x3]) (fun T hT X => xt_invS X hx hown (hts _ m_2544fdce) (hts _ m_81c46ed3) (hts _ m_6445b362) (xt_sgSH (hts _ m_84a3017b)).1 (xt_sgSH (hts _ m_84a3017b)).2 nm_Law_out (g := F0 m 1405 ls [.ref x3, .int (xs (Int32.toNatClampNeg (x4 + 1))), .ref x1]) rfl (argsL := [.ref x1, .int (xs (Int32.toNatClampNeg (x4 + 1))), .ref x3]) (rest := []) rfl rfl (by rw [hb]; exact (xb_d D_Law_law 834 rfl))) (ok_Law_out l hfl D A σ x1 (xs (Int32.toNatClampNeg (x4 + 1))) x3 h bc bs _ hw) (hml.trans hl.1.symm) (by rw [hb]; exact (xb_d D_Law_law 834 rfl)) (Nat.le_of_ble_eq_true rfl) (Nat.le_of_ble_eq_true rfl) (Nat.le_of_ble_eq_true rfl) (show k + bc ≤ MC by omega) (show n + bs ≤ MS by omega) (xt_w1 hB.1 m_84a3017b) (xt_cdOfH hB.1 m_84a3017b) (hts _ m_6445b362) hB hR hS hA (fun vv h343 bc344 bs344 kk344 nn344 H locs hk344 hn344 hq hEh343 hR hS => ?_) (fun XX ax h343 bc344 bs344 kk344 nn344 H locs hk344 hn344 hq hEh343 hex hR hS => ?_)
        · obtain ⟨r344, rfl, hw⟩ := hq
          have hw := hw hEh343
          have hE := hE.tr hEh343
          refine W.eq (g2 := F0 m 1408 ls [.int r344]) rfl ?_
          refine lv_istore hx hb (xb_d D_Law_law 835 rfl) hl (by decide) rfl (fun ls hl => ?_)
          have hl : lv_has ls 8 [(5, .int r344), (0, .ref x0), (1, .ref x1), (2, .ref x2), (3, .ref x3), (4, .int x4)] := hl
          refine lv_aload_n hx hb (xb_d D_Law_law 836 rfl) rfl (lv_at hl 3 rfl) ?_
          refine lv_aload_n hx hb (xb_d D_Law_law 837 rfl) rfl (lv_at hl 1 rfl) ?_
          refine lv_iload hx hb (xb_d D_Law_law 838 rfl) (lv_at hl 5 rfl) ?_
          refine lv_iconst (v := 1) hx hb (xb_d D_Law_law 839 rfl) (by decide) ?_
          refine lv_iadd hx hb (xb_d D_Law_law 840 rfl) ?_
          obtain ⟨hi345, hw⟩ := hw
          refine va_sld hx hb hX hbl hbA hS hi345 (xb_d D_Law_law 841 rfl) ?_
          obtain ⟨hk346, hw⟩ := hw
          refine xb_call0 (D := D) (A := A) (σ := σ) (h := h343) (d := 2) (maxL := 2) (rest := []) (av := [.ref x2, .int (xs (Int32.toNatClampNeg (x4 + 1)))]) (fun T hT X => by obtain ⟨cb9, ra9, rb9, rc9⟩ := xb_recv (ci := 8) hR rfl hk346 (by decide); exact xt_invV X hx hown (hts _ m_3bdb9f30) (hts _ m_52e25b4a) (hts _ m_a2135ad2) (xt_sigOf (hts _ m_37881f5c)) nm_M_out (by rw [hT]; exact ra9) rb9 rc9 (g := F0 m 1417 ls [.int (xs (Int32.toNatClampNeg (x4 + 1))), .ref x2]) rfl (argsL := [.int (xs (Int32.toNatClampNeg (x4 + 1)))]) (rest := []) rfl rfl (by rw [hb]; exact (xb_d D_Law_law 842 rfl))) (ok_M_out l hfl D A σ x2 (xs (Int32.toNatClampNeg (x4 + 1))) h343 _ hw) (hml.trans hl.1.symm) (by rw [hb]; exact (xb_d D_Law_law 842 rfl)) (Nat.le_of_ble_eq_true rfl) (Nat.le_of_ble_eq_true rfl) (Nat.le_of_ble_eq_true rfl) (show (k + kk344) ≤ MC by omega) (show (n + nn344) ≤ MS by omega) (xt_w1 hB.1 m_37881f5c) (xt_cdOf hB.1 m_37881f5c) (hts _ m_d5ed7bed) hB hR hS hA (fun vv h347 H locs hq hEh347 hR hS => ?_)
          obtain ⟨r348, rfl, hw⟩ := hq
          have hw := hw hEh347
          have hE := hE.tr hEh347
          refine W.eq (g2 := F0 m 1420 ls [.long r348]) rfl ?_
          refine lv_lstore hx hb (xb_d D_Law_law 843 rfl) hl (by decide) rfl (fun ls hl => ?_)
          have hl : lv_has ls 8 [(6, .long r348), (5, .int r344), (0, .ref x0), (1, .ref x1), (2, .ref x2), (3, .ref x3), (4, .int x4)] := hl
          refine lv_aload_n hx hb (xb_d D_Law_law 844 rfl) rfl (lv_at hl 4 rfl) ?_
          have hk346 : xb_k h347 x2 = 9 := hEh347.k hk346
          refine xb_call0 (D := D) (A := A) (σ := σ) (h := h347) (d := 2) (maxL := 1) (rest := []) (av := [.ref x2]) (fun T hT X => by obtain ⟨cb9, ra9, rb9, rc9⟩ := xb_recv (ci := 8) hR rfl hk346 (by decide); exact xt_invV X hx hown (hts _ m_4e0e8e72) (hts _ m_e6bd7a2e) (hts _ m_a9e3d950) (xt_sigOf (hts _ m_6c6d2858)) nm_M_thrown (by rw [hT]; exact ra9) rb9 rc9 (g := F0 m 1423 ls [.ref x2]) rfl (argsL := []) (rest := []) rfl rfl (by rw [hb]; exact (xb_d D_Law_law 845 rfl))) (ok_M_thrown l hfl D A σ x2 h347 _ hw) (hml.trans hl.1.symm) (by rw [hb]; exact (xb_d D_Law_law 845 rfl)) (Nat.le_of_ble_eq_true rfl) (Nat.le_of_ble_eq_true rfl) (Nat.le_of_ble_eq_true rfl) (show (k + kk344) ≤ MC by omega) (show (n + nn344) ≤ MS by omega) (xt_w1 hB.1 m_6c6d2858) (xt_cdOf hB.1 m_6c6d2858) (hts _ m_d5ed7bed) hB hR hS hA (fun vv h349 H locs hq hEh349 hR hS => ?_)
          obtain ⟨r350, rfl, hw⟩ := hq
          have hw := hw hEh349
          have hE := hE.tr hEh349
          refine W.eq (g2 := F0 m 1426 ls [.int r350]) rfl ?_
          refine lv_iload hx hb (xb_d D_Law_law 846 rfl) (lv_at hl 1 rfl) ?_
          refine lv_icmp_eq (tgt := 1433) hx hb (xb_d D_Law_law 847 rfl) rfl (fun hc351 => ?_) (fun hc351 => ?_)
          · have hw := hw.1 hc351
            refine lv_iload hx hb (xb_d D_Law_law 850 rfl) (lv_at hl 1 rfl) ?_
            refine lv_if_ne (tgt := 1449) hx hb (xb_d D_Law_law 851 rfl) rfl (fun hc352 => ?_) (fun hc352 => ?_)
            · have hw := hw.1 hc352
              exact am_Law_law_L1449 l hfl D A σ L xs MC MS h0 Qr (w2_Law_law_L23 σ L xs Qr n9) ih x0 x1 x2 x3 x4 h349 bc344 bs344 hw p e s m args below meth c hC hX9 H locs ls (k + kk344) (n + nn344) hE (lv_sub hl [2, 3, 4, 5, 6] rfl) hR hS (by omega) (by omega)
            · have hw := hw.2 hc352
              refine lv_aload_n hx hb (xb_d D_Law_law 852 rfl) rfl (lv_at hl 5 rfl) ?_
              refine lv_iconst (v := 0) hx hb (xb_d D_Law_law 853 rfl) (by decide) ?_
              obtain ⟨hk354, hw⟩ := hw
              obtain ⟨hi353, hw⟩ := hw
              refine xb_lald hx hb hR hk354 hi353 (xb_d D_Law_law 854 rfl) ?_
              refine xt_numl (y := (xb_l h349 x3 0)) (congrArg (xb_l h349 x3) (by decide : (0 : Int32).toNatClampNeg = 0)) ?_
              refine lv_lload hx hb (xb_d D_Law_law 855 rfl) (lv_at hl 0 rfl) ?_
              refine xb_lc_eq (tgt := 1449) hx hb (xb_d D_Law_law 856 rfl) (xb_d D_Law_law 857 rfl) rfl (fun hc355 => ?_) (fun hc355 => ?_)
              · have hw := hw.1 hc355
                exact am_Law_law_L1449 l hfl D A σ L xs MC MS h0 Qr (w2_Law_law_L23 σ L xs Qr n9) ih x0 x1 x2 x3 x4 h349 bc344 bs344 hw p e s m args below meth c hC hX9 H locs ls (k + kk344) (n + nn344) hE (lv_sub hl [2, 3, 4, 5, 6] rfl) hR hS (by omega) (by omega)
              · have hw := hw.2 hc355
                refine lv_iconst (v := 0) hx hb (xb_d D_Law_law 858 rfl) (by decide) ?_
                exact xb_zret bc344 bs344 hx hb hr hlocks (show (k + kk344) + bc344 ≤ MC by omega) (show (n + nn344) + bs344 ≤ MS by omega) (by decide) hE hR hS (xb_d D_Law_law 859 rfl) hw
          · have hw := hw.2 hc351
            refine lv_iconst (v := 0) hx hb (xb_d D_Law_law 848 rfl) (by decide) ?_
            exact xb_zret bc344 bs344 hx hb hr hlocks (show (k + kk344) + bc344 ≤ MC by omega) (show (n + nn344) + bs344 ≤ MS by omega) (by decide) hE hR hS (xb_d D_Law_law 849 rfl) hw
        · exact False.elim hq
      have hw := hw.2
      by_cases hc356 : ((xs (Int32.toNatClampNeg x4)) &&& 31) = 25
      · have hw := hw.1 hc356
        refine xt_numi hc356 ?_
        refine lv_tableIn (off := 1412) (tgt := 1452) hx hb (xb_d D_Law_law 24 rfl) (by decide +kernel) (by decide +kernel) (by decide +kernel) (by decide) ?_
        refine lv_aload_n hx hb (xb_d D_Law_law 861 rfl) rfl (lv_at hl 1 rfl) ?_
        obtain ⟨hk357, hw⟩ := hw
        refine xb_call0 (D := D) (A := A) (σ := σ) (h := h) (d := 2) (maxL := 2) (rest := []) (av := [.ref x1]) (fun T hT X => by obtain ⟨cb9, ra9, rb9, rc9⟩ := xb_recv (ci := 0) hR rfl hk357 (by decide); exact xt_invV X hx hown (hts _ m_4f4e4284) (hts _ m_a4bf6225) (hts _ m_52e78cdd) (xt_sigOf (hts _ m_85b6a32c)) nm_H_clear (by rw [hT]; exact ra9) rb9 rc9 (g := F0 m 1453 ls [.ref x1]) rfl (argsL := []) (rest := []) rfl rfl (by rw [hb]; exact (xb_d D_Law_law 862 rfl))) (ok_H_clear l hfl D A σ x1 h _ hw) (hml.trans hl.1.symm) (by rw [hb]; exact (xb_d D_Law_law 862 rfl)) (Nat.le_of_ble_eq_true rfl) (Nat.le_of_ble_eq_true rfl) (Nat.le_of_ble_eq_true rfl) (show k ≤ MC by omega) (show n ≤ MS by omega) (xt_w1 hB.1 m_85b6a32c) (xt_cdOf hB.1 m_85b6a32c) (hts _ m_ba0734f5) hB hR hS hA (fun vv h358 H locs hq hEh358 hR hS => ?_)
        obtain ⟨r359, rfl, hw⟩ := hq
        have hw := hw hEh358
        have hE := hE.tr hEh358
        refine W.eq (g2 := F0 m 1456 ls [.int r359]) rfl ?_
        refine lv_aload_n hx hb (xb_d D_Law_law 863 rfl) rfl (lv_at hl 2 rfl) ?_
        obtain ⟨hk360, hw⟩ := hw
        refine xb_call0 (D := D) (A := A) (σ := σ) (h := h358) (d := 2) (maxL := 2) (rest := [.int r359]) (av := [.ref x2]) (fun T hT X => by obtain ⟨cb9, ra9, rb9, rc9⟩ := xb_recv (ci := 8) hR rfl hk360 (by decide); exact xt_invV X hx hown (hts _ m_78b8f485) (hts _ m_3673e0eb) (hts _ m_d69041fc) (xt_sigOf (hts _ m_a68dea8a)) nm_M_clear (by rw [hT]; exact ra9) rb9 rc9 (g := F0 m 1457 ls [.ref x2, .int r359]) rfl (argsL := []) (rest := [.int r359]) rfl rfl (by rw [hb]; exact (xb_d D_Law_law 864 rfl))) (ok_M_clear l hfl D A σ x2 h358 _ hw) (hml.trans hl.1.symm) (by rw [hb]; exact (xb_d D_Law_law 864 rfl)) (Nat.le_of_ble_eq_true rfl) (Nat.le_of_ble_eq_true rfl) (Nat.le_of_ble_eq_true rfl) (show k ≤ MC by omega) (show n ≤ MS by omega) (xt_w1 hB.1 m_a68dea8a) (xt_cdOf hB.1 m_a68dea8a) (hts _ m_d5ed7bed) hB hR hS hA (fun vv h361 H locs hq hEh361 hR hS => ?_)
        obtain ⟨r362, rfl, hw⟩ := hq
        have hw := hw hEh361
        have hE := hE.tr hEh361
        refine W.eq (g2 := F0 m 1460 ls [.int r362, .int r359]) rfl ?_
        refine lv_icmp_eq (tgt := 1465) hx hb (xb_d D_Law_law 865 rfl) rfl (fun hc363 => ?_) (fun hc363 => ?_)
        · have hw := hw.1 hc363
          exact am_Law_law_L1465 l hfl D A σ L xs MC MS h0 Qr (w2_Law_law_L23 σ L xs Qr n9) ih x0 x1 x2 x3 x4 h361 bc bs hw p e s m args below meth c hC hX9 H locs ls k n hE (lv_sub hl [0, 1, 2, 3, 4] rfl) hR hS (by omega) (by omega)
        · have hw := hw.2 hc363
          refine lv_iconst (v := 0) hx hb (xb_d D_Law_law 866 rfl) (by decide) ?_
          exact xb_zret bc bs hx hb hr hlocks (show k + bc ≤ MC by omega) (show n + bs ≤ MS by omega) (by decide) hE hR hS (xb_d D_Law_law 867 rfl) hw
      have hw := hw.2
      have hw := hw hc4 hc27 hc38 hc51 hc66 hc83 hc100 hc115 hc126 hc141 hc160 hc177 hc190 hc205 hc213 hc221 hc229 hc244 hc259 hc276 hc291 hc308 hc325 hc333 hc341 hc356
      refine lv_tableOut (tgt := 1465) hx hb (xb_d D_Law_law 24 rfl) (by have a0 := xb_nl (0) 0 (by decide) hc4; have a1 := xb_nl (1) 1 (by decide) hc27; have a2 := xb_nl (2) 2 (by decide) hc38; have a3 := xb_nl (3) 3 (by decide) hc51; have a4 := xb_nl (4) 4 (by decide) hc66; have a5 := xb_nl (5) 5 (by decide) hc83; have a6 := xb_nl (6) 6 (by decide) hc100; have a7 := xb_nl (7) 7 (by decide) hc115; have a8 := xb_nl (8) 8 (by decide) hc126; have a9 := xb_nl (9) 9 (by decide) hc141; have a10 := xb_nl (10) 10 (by decide) hc160; have a11 := xb_nl (11) 11 (by decide) hc177; have a12 := xb_nl (12) 12 (by decide) hc190; have a13 := xb_nl (13) 13 (by decide) hc205; have a14 := xb_nl (14) 14 (by decide) hc213; have a15 := xb_nl (15) 15 (by decide) hc221; have a16 := xb_nl (16) 16 (by decide) hc229; have a17 := xb_nl (17) 17 (by decide) hc244; have a18 := xb_nl (18) 18 (by decide) hc259; have a19 := xb_nl (19) 19 (by decide) hc276; have a20 := xb_nl (20) 20 (by decide) hc291; have a21 := xb_nl (21) 21 (by decide) hc308; have a22 := xb_nl (22) 22 (by decide) hc325; have a23 := xb_nl (23) 23 (by decide) hc333; have a24 := xb_nl (24) 24 (by decide) hc341; have a25 := xb_nl (25) 25 (by decide) hc356; omega) (by decide) ?_
      exact am_Law_law_L1465 l hfl D A σ L xs MC MS h0 Qr (w2_Law_law_L23 σ L xs Qr n9) ih x0 x1 x2 x3 x4 h bc bs hw p e s m args below meth c hC hX9 H locs ls k n hE (lv_sub hl [0, 1, 2, 3, 4] rfl) hR hS (by omega) (by omega)

set_option maxHeartbeats 4000000 in
set_option maxRecDepth 100000 in
theorem ok_Law_law (l : Launch) (hfl : l.flags = pinnedFlags ++ [noTraceFlag]) (D : va_G) (A : Nat → Prop) (σ L : Nat) (xs : Nat → Int32) (x0 : Nat) (h : xb_H) (bc : Nat) (bs : Nat) (Qr : Int32 → xb_H → Nat → Nat → Prop) (hw : w2_Law_law σ L xs x0 h bc bs Qr) : xb_Met l y_Law_law [.code y_Law_law b_Law_law 8 (some .boolean)] (xb_rm 15 bc bs) (xb_Pc2 x0 L xs D A σ h [.ref x0]) (xb_Qc D A h bc bs (fun v h bc bs => ∃ r, v = some (.int r) ∧ Qr r h bc bs) (fun _ _ _ _ => False)) A := by
  refine xb_ofAm2 (cc := b_Law_law) (by decide) (Nat.le_of_ble_eq_true rfl) ?_
  unfold w2_Law_law at hw
  show xb_am2 x0 L xs l D A σ 15 bc bs h (fun v h bc bs => ∃ r, v = some (.int r) ∧ Qr r h bc bs) (fun _ _ _ _ => False) y_Law_law.cls y_Law_law.name b_Law_law 8 ([] : List ExceptionTableEntry) (some .boolean) 0 [(0, .ref x0)] [] h bc bs
  obtain ⟨MC, hMC⟩ : ∃ x, x = bc := ⟨_, rfl⟩
  obtain ⟨MS, hMS⟩ : ∃ x, x = bs := ⟨_, rfl⟩
  rw [show xb_am2 x0 L xs l D A σ 15 bc bs = xb_am2 x0 L xs l D A σ 15 MC MS by rw [hMC, hMS]]
  obtain ⟨h0, hh0⟩ : ∃ x, x = h := ⟨_, rfl⟩
  rw [show xb_am2 x0 L xs l D A σ 15 MC MS h = xb_am2 x0 L xs l D A σ 15 MC MS h0 by rw [hh0]]
  intro p e s m args below meth c hC hX9 H locs ls k n hE hl hR hS hk hn
  obtain ⟨hX, hbl, hbA⟩ := id hX9
  obtain ⟨hx, hb, hown, hlocks, htab, hml, hr, hB, hA, hnm⟩ := id hC
  have hts := hB.1.1.at args
  obtain ⟨hcq1, hsq1, hw⟩ := hw
  refine xb_newo (C := R_H) (T := F_H) (N := 11) hx hb 0 hts fin_H t_H t_H_ok hown (hts _ m_5b8a9786) (hts _ m_8b0e565f) (hts _ m_ba0734f5) hR hS hA (by decide) rfl dg_H (show k + 1 ≤ MC by omega) (show n + 11 ≤ MS by omega) (xb_d D_Law_law 0 rfl) (fun q1 H hqq1 hR hS => ?_)
  have hw := hw q1 hqq1
  obtain ⟨h2, eh2⟩ : ∃ x : xb_H, x = xb_new h q1 1 0 := ⟨_, rfl⟩
  rw [← eh2] at hR
  have hw := hw h2 eh2
  have hE : xb_ext h0 h2 := by rw [eh2]; exact hE.new _ _ hqq1
  have hk3 : xb_k h2 q1 = 1 := by rw [eh2]; exact xb_new_k _ _ _ _
  refine lv_dup hx hb (xb_d D_Law_law 1 rfl) rfl ?_
  refine xb_call (D := D) (A := A) (σ := σ) (h := h2) (d := 4) (mc := (bc - 1)) (ms := (bs - 11)) (maxL := 1) (rest := [.ref q1]) (av := [.ref q1]) (fun T hT X => xt_invI X hx hown rfl (hts _ m_d981becc) (hts _ m_8ce46be2) (hts _ m_1a0c6c5e) nm_H_init (g := F0 m 4 ls [.ref q1, .ref q1]) rfl (b := q1) (argsL := []) (rest := [.ref q1]) rfl rfl (by rw [hb]; exact (xb_d D_Law_law 2 rfl))) (ok_H_init l hfl D A σ q1 h2 (bc - 1) (bs - 11) _ hw) (hml.trans hl.1.symm) (by rw [hb]; exact (xb_d D_Law_law 2 rfl)) (Nat.le_of_ble_eq_true rfl) (Nat.le_of_ble_eq_true rfl) (Nat.le_of_ble_eq_true rfl) (show (k + 1) + (bc - 1) ≤ MC by omega) (show (n + 11) + (bs - 11) ≤ MS by omega) (xt_w1 hB.1 m_1a0c6c5e) (xt_cdOf hB.1 m_1a0c6c5e) (hts _ m_ba0734f5) hB hR hS hA (fun vv h4 bc5 bs5 kk5 nn5 H locs hk5 hn5 hq hEh4 hR hS => ?_) (fun XX ax h4 bc5 bs5 kk5 nn5 H locs hk5 hn5 hq hEh4 hex hR hS => ?_)
  · obtain ⟨rfl, hw⟩ := hq
    have hw := hw hEh4
    have hE := hE.tr hEh4
    refine W.eq (g2 := F0 m 7 ls [.ref q1]) rfl ?_
    refine lv_astore_n hx hb (xb_d D_Law_law 3 rfl) rfl hl (by decide) rfl (fun ls hl => ?_)
    have hl : lv_has ls 8 [(1, .ref q1), (0, .ref x0)] := hl
    obtain ⟨hcq6, hsq6, hw⟩ := hw
    refine xb_newo (C := R_M) (T := F_M) (N := 97) hx hb 8 hts fin_M t_M t_M_ok hown (hts _ m_1fd49ce1) (hts _ m_45254c46) (hts _ m_d5ed7bed) hR hS hA (by decide) rfl dg_M (show ((k + 1) + kk5) + 1 ≤ MC by omega) (show ((n + 11) + nn5) + 97 ≤ MS by omega) (xb_d D_Law_law 4 rfl) (fun q6 H hqq6 hR hS => ?_)
    have hw := hw q6 hqq6
    obtain ⟨h7, eh7⟩ : ∃ x : xb_H, x = xb_new h4 q6 9 0 := ⟨_, rfl⟩
    rw [← eh7] at hR
    have hw := hw h7 eh7
    have hE : xb_ext h0 h7 := by rw [eh7]; exact hE.new _ _ hqq6
    have hk8 : xb_k h7 q6 = 9 := by rw [eh7]; exact xb_new_k _ _ _ _
    refine lv_dup hx hb (xb_d D_Law_law 5 rfl) rfl ?_
    refine xb_call (D := D) (A := A) (σ := σ) (h := h7) (d := 3) (mc := (bc5 - 1)) (ms := (bs5 - 97)) (maxL := 1) (rest := [.ref q6]) (av := [.ref q6]) (fun T hT X => xt_invI X hx hown rfl (hts _ m_54872f0c) (hts _ m_7bddef4d) (hts _ m_bbaef9d1) nm_M_init (g := F0 m 12 ls [.ref q6, .ref q6]) rfl (b := q6) (argsL := []) (rest := [.ref q6]) rfl rfl (by rw [hb]; exact (xb_d D_Law_law 6 rfl))) (ok_M_init l hfl D A σ q6 h7 (bc5 - 1) (bs5 - 97) _ hw) (hml.trans hl.1.symm) (by rw [hb]; exact (xb_d D_Law_law 6 rfl)) (Nat.le_of_ble_eq_true rfl) (Nat.le_of_ble_eq_true rfl) (Nat.le_of_ble_eq_true rfl) (show (((k + 1) + kk5) + 1) + (bc5 - 1) ≤ MC by omega) (show (((n + 11) + nn5) + 97) + (bs5 - 97) ≤ MS by omega) (xt_w1 hB.1 m_bbaef9d1) (xt_cdOf hB.1 m_bbaef9d1) (hts _ m_d5ed7bed) hB hR hS hA (fun vv h9 bc10 bs10 kk10 nn10 H locs hk10 hn10 hq hEh9 hR hS => ?_) (fun XX ax h9 bc10 bs10 kk10 nn10 H locs hk10 hn10 hq hEh9 hex hR hS => ?_)
    · obtain ⟨rfl, hw⟩ := hq
      have hw := hw hEh9
      have hE := hE.tr hEh9
      refine W.eq (g2 := F0 m 15 ls [.ref q6]) rfl ?_
      refine lv_astore_n hx hb (xb_d D_Law_law 7 rfl) rfl hl (by decide) rfl (fun ls hl => ?_)
      have hl : lv_has ls 8 [(2, .ref q6), (1, .ref q1), (0, .ref x0)] := hl
      refine lv_iconst (v := 1) hx hb (xb_d D_Law_law 8 rfl) (by decide) ?_
      obtain ⟨hcq11, hsq11, hw⟩ := hw
      have enq11 : (1 : Int32).toNatClampNeg = 1 := by decide
      refine xb_newa_l hx hb (hts _ m_f2af499d) hR hS hA (by decide) (by decide +kernel) (show ((((k + 1) + kk5) + 1) + kk10) + 1 ≤ MC by omega) (show ((((n + 11) + nn5) + 97) + nn10) + _ ≤ MS by rw [enq11]; omega) (xb_d D_Law_law 9 rfl) (fun q11 H hqq11 hR hS => ?_)
      rw [enq11] at hR ⊢
      have hw := hw q11 hqq11
      obtain ⟨h12, eh12⟩ : ∃ x : xb_H, x = xb_new h9 q11 103 1 := ⟨_, rfl⟩
      rw [← eh12] at hR
      have hw := hw h12 eh12
      have hE : xb_ext h0 h12 := by rw [eh12]; exact hE.new _ _ hqq11
      have hk13 : xb_k h12 q11 = 103 := by rw [eh12]; exact xb_new_k _ _ _ _
      refine lv_astore_n hx hb (xb_d D_Law_law 10 rfl) rfl hl (by decide) rfl (fun ls hl => ?_)
      have hl : lv_has ls 8 [(3, .ref q11), (2, .ref q6), (1, .ref q1), (0, .ref x0)] := hl
      refine lv_iconst (v := 0) hx hb (xb_d D_Law_law 11 rfl) (by decide) ?_
      refine lv_istore hx hb (xb_d D_Law_law 12 rfl) hl (by decide) rfl (fun ls hl => ?_)
      have hl : lv_has ls 8 [(4, .int 0), (3, .ref q11), (2, .ref q6), (1, .ref q1), (0, .ref x0)] := hl
      obtain ⟨n8, hw⟩ := hw
      exact am_Law_law_L23 l hfl D A σ L xs MC MS h0 Qr n8 x0 q1 q6 q11 0 h12 (bc10 - 1) (bs10 - 1) hw p e s m args below meth c hC hX9 H locs ls (((((k + 1) + kk5) + 1) + kk10) + 1) (((((n + 11) + nn5) + 97) + nn10) + 1) hE (lv_sub hl [4, 3, 2, 1, 0] rfl) hR hS (by omega) (by omega)
    · exact False.elim hq
  · exact False.elim hq

