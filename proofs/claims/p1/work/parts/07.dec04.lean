theorem d_M_isModule_9 : decode b_M_isModule 9 = .ok (.if_icmp .ge 7, 3) := by decide +kernel
theorem d_M_isModule_16 : decode b_M_isModule 16 = .ok (.iconst 0, 1) := by decide +kernel
theorem d_M_isModule_17 : decode b_M_isModule 17 = .ok (.ireturn, 1) := by decide +kernel
theorem d_M_keepTape_0 : decode b_M_keepTape 0 = .ok (.aload_n 0, 1) := by decide +kernel
theorem d_M_keepTape_1 : decode b_M_keepTape 1 = .ok (.aload_n 0, 1) := by decide +kernel
theorem d_M_keepTape_2 : decode b_M_keepTape 2 = .ok (.getfield 265, 3) := by decide +kernel
theorem d_M_keepTape_5 : decode b_M_keepTape 5 = .ok (.invokevirtual 268, 3) := by decide +kernel
theorem d_M_keepTape_8 : decode b_M_keepTape 8 = .ok (.iconst 0, 1) := by decide +kernel
theorem d_M_keepTape_9 : decode b_M_keepTape 9 = .ok (.istore_n 1, 1) := by decide +kernel
theorem d_M_keepTape_10 : decode b_M_keepTape 10 = .ok (.iload_n 1, 1) := by decide +kernel
theorem d_M_keepTape_11 : decode b_M_keepTape 11 = .ok (.aload_n 0, 1) := by decide +kernel
theorem d_M_keepTape_12 : decode b_M_keepTape 12 = .ok (.getfield 265, 3) := by decide +kernel
theorem d_M_keepTape_15 : decode b_M_keepTape 15 = .ok (.if_icmp .ge 26, 3) := by decide +kernel
theorem d_M_keepTape_41 : decode b_M_keepTape 41 = .ok (.aload_n 0, 1) := by decide +kernel
theorem d_M_keepTape_42 : decode b_M_keepTape 42 = .ok (.getfield 262, 3) := by decide +kernel
theorem d_M_keepTape_45 : decode b_M_keepTape 45 = .ok (.istore_n 1, 1) := by decide +kernel
theorem d_M_keepTape_46 : decode b_M_keepTape 46 = .ok (.aload_n 0, 1) := by decide +kernel
theorem d_M_keepTape_47 : decode b_M_keepTape 47 = .ok (.aload_n 0, 1) := by decide +kernel
theorem d_M_keepTape_48 : decode b_M_keepTape 48 = .ok (.getfield 262, 3) := by decide +kernel
theorem d_M_keepTape_51 : decode b_M_keepTape 51 = .ok (.aload_n 0, 1) := by decide +kernel
theorem d_M_keepTape_52 : decode b_M_keepTape 52 = .ok (.getfield 265, 3) := by decide +kernel
theorem d_M_keepTape_55 : decode b_M_keepTape 55 = .ok (.iadd, 1) := by decide +kernel
theorem d_M_keepTape_56 : decode b_M_keepTape 56 = .ok (.putfield 262, 3) := by decide +kernel
theorem d_M_keepTape_59 : decode b_M_keepTape 59 = .ok (.aload_n 0, 1) := by decide +kernel
theorem d_M_keepTape_60 : decode b_M_keepTape 60 = .ok (.iconst 0, 1) := by decide +kernel
theorem d_M_keepTape_61 : decode b_M_keepTape 61 = .ok (.putfield 265, 3) := by decide +kernel
theorem d_M_keepTape_64 : decode b_M_keepTape 64 = .ok (.iload_n 1, 1) := by decide +kernel
theorem d_M_keepTape_65 : decode b_M_keepTape 65 = .ok (.ireturn, 1) := by decide +kernel
theorem d_M_load_0 : decode b_M_load 0 = .ok (.aload_n 0, 1) := by decide +kernel
theorem d_M_load_1 : decode b_M_load 1 = .ok (.aload_n 0, 1) := by decide +kernel
theorem d_M_load_2 : decode b_M_load 2 = .ok (.getfield 275, 3) := by decide +kernel
theorem d_M_load_5 : decode b_M_load 5 = .ok (.bipush 64, 2) := by decide +kernel
theorem d_M_load_7 : decode b_M_load 7 = .ok (.if_icmp .ne 7, 3) := by decide +kernel
theorem d_M_load_14 : decode b_M_load 14 = .ok (.iconst 0, 1) := by decide +kernel
theorem d_M_load_15 : decode b_M_load 15 = .ok (.putfield 189, 3) := by decide +kernel
theorem d_M_load_18 : decode b_M_load 18 = .ok (.aload_n 0, 1) := by decide +kernel
theorem d_M_load_19 : decode b_M_load 19 = .ok (.getfield 189, 3) := by decide +kernel
theorem d_M_load_22 : decode b_M_load 22 = .ok (.ifCond .le 5, 3) := by decide +kernel
theorem d_M_load_27 : decode b_M_load 27 = .ok (.aload_n 0, 1) := by decide +kernel
theorem d_M_load_28 : decode b_M_load 28 = .ok (.getfield 262, 3) := by decide +kernel
theorem d_M_load_31 : decode b_M_load 31 = .ok (.istore_n 1, 1) := by decide +kernel
theorem d_M_load_32 : decode b_M_load 32 = .ok (.aload_n 0, 1) := by decide +kernel
theorem d_M_load_33 : decode b_M_load 33 = .ok (.getfield 272, 3) := by decide +kernel
theorem d_M_load_36 : decode b_M_load 36 = .ok (.istore_n 2, 1) := by decide +kernel
theorem d_M_load_37 : decode b_M_load 37 = .ok (.aload_n 0, 1) := by decide +kernel
theorem d_M_load_38 : decode b_M_load 38 = .ok (.getfield 265, 3) := by decide +kernel
theorem d_M_load_41 : decode b_M_load 41 = .ok (.istore_n 3, 1) := by decide +kernel
theorem d_M_load_42 : decode b_M_load 42 = .ok (.aload_n 0, 1) := by decide +kernel
theorem d_M_load_43 : decode b_M_load 43 = .ok (.aload_n 0, 1) := by decide +kernel
theorem d_M_load_44 : decode b_M_load 44 = .ok (.invokevirtual 307, 3) := by decide +kernel
theorem d_M_load_47 : decode b_M_load 47 = .ok (.putfield 196, 3) := by decide +kernel
theorem d_M_load_50 : decode b_M_load 50 = .ok (.aload_n 0, 1) := by decide +kernel
theorem d_M_load_51 : decode b_M_load 51 = .ok (.getfield 17, 3) := by decide +kernel
theorem d_M_load_54 : decode b_M_load 54 = .ok (.aload_n 0, 1) := by decide +kernel
theorem d_M_load_55 : decode b_M_load 55 = .ok (.getfield 275, 3) := by decide +kernel
theorem d_M_load_58 : decode b_M_load 58 = .ok (.aload_n 0, 1) := by decide +kernel
theorem d_M_load_59 : decode b_M_load 59 = .ok (.getfield 196, 3) := by decide +kernel
theorem d_M_load_62 : decode b_M_load 62 = .ok (.iastore, 1) := by decide +kernel
theorem d_M_load_63 : decode b_M_load 63 = .ok (.aload_n 0, 1) := by decide +kernel
theorem d_M_load_64 : decode b_M_load 64 = .ok (.getfield 21, 3) := by decide +kernel
theorem d_M_load_67 : decode b_M_load 67 = .ok (.aload_n 0, 1) := by decide +kernel
theorem d_M_load_68 : decode b_M_load 68 = .ok (.getfield 275, 3) := by decide +kernel
theorem d_M_load_71 : decode b_M_load 71 = .ok (.iload_n 3, 1) := by decide +kernel
theorem d_M_load_72 : decode b_M_load 72 = .ok (.iastore, 1) := by decide +kernel
theorem d_M_load_73 : decode b_M_load 73 = .ok (.iconst 0, 1) := by decide +kernel
theorem d_M_load_74 : decode b_M_load 74 = .ok (.istore 4, 2) := by decide +kernel
theorem d_M_load_76 : decode b_M_load 76 = .ok (.iload 4, 2) := by decide +kernel
theorem d_M_load_78 : decode b_M_load 78 = .ok (.bipush 12, 2) := by decide +kernel
theorem d_M_load_80 : decode b_M_load 80 = .ok (.if_icmp .ge 41, 3) := by decide +kernel
theorem d_M_load_83 : decode b_M_load 83 = .ok (.aload_n 0, 1) := by decide +kernel
theorem d_M_load_84 : decode b_M_load 84 = .ok (.getfield 27, 3) := by decide +kernel
theorem d_M_load_87 : decode b_M_load 87 = .ok (.bipush 12, 2) := by decide +kernel
theorem d_M_load_89 : decode b_M_load 89 = .ok (.aload_n 0, 1) := by decide +kernel
theorem d_M_load_90 : decode b_M_load 90 = .ok (.getfield 275, 3) := by decide +kernel
theorem d_M_load_93 : decode b_M_load 93 = .ok (.imul, 1) := by decide +kernel
theorem d_M_load_94 : decode b_M_load 94 = .ok (.iload 4, 2) := by decide +kernel
theorem d_M_load_96 : decode b_M_load 96 = .ok (.iadd, 1) := by decide +kernel
theorem d_M_load_97 : decode b_M_load 97 = .ok (.iconst 0, 1) := by decide +kernel
theorem d_M_load_98 : decode b_M_load 98 = .ok (.iastore, 1) := by decide +kernel
theorem d_M_load_99 : decode b_M_load 99 = .ok (.aload_n 0, 1) := by decide +kernel
theorem d_M_load_100 : decode b_M_load 100 = .ok (.getfield 24, 3) := by decide +kernel
theorem d_M_load_103 : decode b_M_load 103 = .ok (.bipush 12, 2) := by decide +kernel
theorem d_M_load_105 : decode b_M_load 105 = .ok (.aload_n 0, 1) := by decide +kernel
theorem d_M_load_106 : decode b_M_load 106 = .ok (.getfield 275, 3) := by decide +kernel
theorem d_M_load_109 : decode b_M_load 109 = .ok (.imul, 1) := by decide +kernel
theorem d_M_load_110 : decode b_M_load 110 = .ok (.iload 4, 2) := by decide +kernel
theorem d_M_load_112 : decode b_M_load 112 = .ok (.iadd, 1) := by decide +kernel
theorem d_M_load_113 : decode b_M_load 113 = .ok (.iconst 0, 1) := by decide +kernel
theorem d_M_load_114 : decode b_M_load 114 = .ok (.iastore, 1) := by decide +kernel
theorem d_M_load_115 : decode b_M_load 115 = .ok (.iinc 4 1, 3) := by decide +kernel
theorem d_M_load_118 : decode b_M_load 118 = .ok (.goto (-42), 3) := by decide +kernel
theorem d_M_load_121 : decode b_M_load 121 = .ok (.iconst 0, 1) := by decide +kernel
theorem d_M_load_122 : decode b_M_load 122 = .ok (.istore 4, 2) := by decide +kernel
theorem d_M_load_124 : decode b_M_load 124 = .ok (.iload 4, 2) := by decide +kernel
theorem d_M_load_126 : decode b_M_load 126 = .ok (.iconst 4, 1) := by decide +kernel
theorem d_M_load_127 : decode b_M_load 127 = .ok (.if_icmp .ge 24, 3) := by decide +kernel
theorem d_M_load_130 : decode b_M_load 130 = .ok (.aload_n 0, 1) := by decide +kernel
theorem d_M_load_131 : decode b_M_load 131 = .ok (.getfield 30, 3) := by decide +kernel
theorem d_M_load_134 : decode b_M_load 134 = .ok (.iconst 4, 1) := by decide +kernel
theorem d_M_load_135 : decode b_M_load 135 = .ok (.aload_n 0, 1) := by decide +kernel
theorem d_M_load_136 : decode b_M_load 136 = .ok (.getfield 275, 3) := by decide +kernel
theorem d_M_load_139 : decode b_M_load 139 = .ok (.imul, 1) := by decide +kernel
theorem d_M_load_140 : decode b_M_load 140 = .ok (.iload 4, 2) := by decide +kernel
theorem d_M_load_142 : decode b_M_load 142 = .ok (.iadd, 1) := by decide +kernel
theorem d_M_load_143 : decode b_M_load 143 = .ok (.iconst 0, 1) := by decide +kernel
theorem d_M_load_144 : decode b_M_load 144 = .ok (.iastore, 1) := by decide +kernel
theorem d_M_load_145 : decode b_M_load 145 = .ok (.iinc 4 1, 3) := by decide +kernel
theorem d_M_load_148 : decode b_M_load 148 = .ok (.goto (-24), 3) := by decide +kernel
theorem d_M_load_151 : decode b_M_load 151 = .ok (.aload_n 0, 1) := by decide +kernel
theorem d_M_load_152 : decode b_M_load 152 = .ok (.iconst 0, 1) := by decide +kernel
theorem d_M_load_153 : decode b_M_load 153 = .ok (.putfield 193, 3) := by decide +kernel
theorem d_M_load_156 : decode b_M_load 156 = .ok (.aload_n 0, 1) := by decide +kernel
theorem d_M_load_157 : decode b_M_load 157 = .ok (.iconst 0, 1) := by decide +kernel
theorem d_M_load_158 : decode b_M_load 158 = .ok (.putfield 199, 3) := by decide +kernel
theorem d_M_load_161 : decode b_M_load 161 = .ok (.aload_n 0, 1) := by decide +kernel
theorem d_M_load_162 : decode b_M_load 162 = .ok (.aload_n 0, 1) := by decide +kernel
theorem d_M_load_163 : decode b_M_load 163 = .ok (.getfield 196, 3) := by decide +kernel
theorem d_M_load_166 : decode b_M_load 166 = .ok (.iload_n 3, 1) := by decide +kernel
theorem d_M_load_167 : decode b_M_load 167 = .ok (.iadd, 1) := by decide +kernel
theorem d_M_load_168 : decode b_M_load 168 = .ok (.invokevirtual 310, 3) := by decide +kernel
theorem d_M_load_171 : decode b_M_load 171 = .ok (.aload_n 0, 1) := by decide +kernel
theorem d_M_load_172 : decode b_M_load 172 = .ok (.getfield 193, 3) := by decide +kernel
theorem d_M_load_175 : decode b_M_load 175 = .ok (.ifCond .ne 21, 3) := by decide +kernel
theorem d_M_load_196 : decode b_M_load 196 = .ok (.aload_n 0, 1) := by decide +kernel
theorem d_M_load_197 : decode b_M_load 197 = .ok (.getfield 179, 3) := by decide +kernel
theorem d_M_load_200 : decode b_M_load 200 = .ok (.iconst 0, 1) := by decide +kernel
theorem d_M_load_201 : decode b_M_load 201 = .ok (.aload_n 0, 1) := by decide +kernel
theorem d_M_load_202 : decode b_M_load 202 = .ok (.getfield 193, 3) := by decide +kernel
theorem d_M_load_205 : decode b_M_load 205 = .ok (.iastore, 1) := by decide +kernel
theorem d_M_load_206 : decode b_M_load 206 = .ok (.aload_n 0, 1) := by decide +kernel
theorem d_M_load_207 : decode b_M_load 207 = .ok (.getfield 179, 3) := by decide +kernel
theorem d_M_load_210 : decode b_M_load 210 = .ok (.iconst 1, 1) := by decide +kernel
theorem d_M_load_211 : decode b_M_load 211 = .ok (.aload_n 0, 1) := by decide +kernel
theorem d_M_load_212 : decode b_M_load 212 = .ok (.getfield 193, 3) := by decide +kernel
theorem d_M_load_215 : decode b_M_load 215 = .ok (.ifCond .ne 7, 3) := by decide +kernel
theorem d_M_load_222 : decode b_M_load 222 = .ok (.aload_n 0, 1) := by decide +kernel
theorem d_M_load_223 : decode b_M_load 223 = .ok (.getfield 199, 3) := by decide +kernel
theorem d_M_load_226 : decode b_M_load 226 = .ok (.iastore, 1) := by decide +kernel
theorem d_M_load_227 : decode b_M_load 227 = .ok (.aload_n 0, 1) := by decide +kernel
theorem d_M_load_228 : decode b_M_load 228 = .ok (.getfield 193, 3) := by decide +kernel
theorem d_M_load_231 : decode b_M_load 231 = .ok (.ifCond .ne 7, 3) := by decide +kernel
theorem d_M_load_238 : decode b_M_load 238 = .ok (.iconst 0, 1) := by decide +kernel
theorem d_M_load_239 : decode b_M_load 239 = .ok (.istore 4, 2) := by decide +kernel
theorem d_M_load_241 : decode b_M_load 241 = .ok (.aload_n 0, 1) := by decide +kernel
theorem d_M_load_242 : decode b_M_load 242 = .ok (.iconst 0, 1) := by decide +kernel
theorem d_M_load_243 : decode b_M_load 243 = .ok (.putfield 193, 3) := by decide +kernel
theorem d_M_load_246 : decode b_M_load 246 = .ok (.iload 4, 2) := by decide +kernel
theorem d_M_load_248 : decode b_M_load 248 = .ok (.ifCond .ne 15, 3) := by decide +kernel
theorem d_M_load_251 : decode b_M_load 251 = .ok (.aload_n 0, 1) := by decide +kernel
theorem d_M_load_252 : decode b_M_load 252 = .ok (.iload_n 1, 1) := by decide +kernel
theorem d_M_load_253 : decode b_M_load 253 = .ok (.putfield 262, 3) := by decide +kernel
theorem d_M_load_256 : decode b_M_load 256 = .ok (.aload_n 0, 1) := by decide +kernel
theorem d_M_load_257 : decode b_M_load 257 = .ok (.iload_n 2, 1) := by decide +kernel
theorem d_M_load_258 : decode b_M_load 258 = .ok (.putfield 272, 3) := by decide +kernel
theorem d_M_load_261 : decode b_M_load 261 = .ok (.iconst (-1), 1) := by decide +kernel
theorem d_M_load_262 : decode b_M_load 262 = .ok (.ireturn, 1) := by decide +kernel
theorem d_M_module_0 : decode b_M_module 0 = .ok (.aload_n 0, 1) := by decide +kernel
theorem d_M_module_1 : decode b_M_module 1 = .ok (.aload_n 0, 1) := by decide +kernel
theorem d_M_module_2 : decode b_M_module 2 = .ok (.iload_n 1, 1) := by decide +kernel
theorem d_M_module_3 : decode b_M_module 3 = .ok (.invokevirtual 473, 3) := by decide +kernel
theorem d_M_module_6 : decode b_M_module 6 = .ok (.ifCond .eq 17, 3) := by decide +kernel
theorem d_M_module_23 : decode b_M_module 23 = .ok (.iconst 1, 1) := by decide +kernel
theorem d_M_module_24 : decode b_M_module 24 = .ok (.putfield 189, 3) := by decide +kernel
theorem d_M_module_27 : decode b_M_module 27 = .ok (.aload_n 0, 1) := by decide +kernel
theorem d_M_module_28 : decode b_M_module 28 = .ok (.getfield 189, 3) := by decide +kernel
theorem d_M_module_31 : decode b_M_module 31 = .ok (.ifCond .le 5, 3) := by decide +kernel
theorem d_M_module_34 : decode b_M_module 34 = .ok (.iconst 0, 1) := by decide +kernel
theorem d_M_module_35 : decode b_M_module 35 = .ok (.ireturn, 1) := by decide +kernel
theorem d_M_name1_0 : decode b_M_name1 0 = .ok (.aload_n 0, 1) := by decide +kernel
theorem d_M_name1_1 : decode b_M_name1 1 = .ok (.aload_n 0, 1) := by decide +kernel
theorem d_M_name1_2 : decode b_M_name1 2 = .ok (.iload_n 1, 1) := by decide +kernel
theorem d_M_name1_3 : decode b_M_name1 3 = .ok (.invokevirtual 592, 3) := by decide +kernel
theorem d_M_name1_6 : decode b_M_name1 6 = .ok (.ifCond .eq 7, 3) := by decide +kernel
theorem d_M_name1_13 : decode b_M_name1 13 = .ok (.iconst 1, 1) := by decide +kernel
theorem d_M_name1_14 : decode b_M_name1 14 = .ok (.putfield 189, 3) := by decide +kernel
theorem d_M_name1_17 : decode b_M_name1 17 = .ok (.aload_n 0, 1) := by decide +kernel
theorem d_M_name1_18 : decode b_M_name1 18 = .ok (.getfield 189, 3) := by decide +kernel
theorem d_M_name1_21 : decode b_M_name1 21 = .ok (.ifCond .ne 49, 3) := by decide +kernel
theorem d_M_name1_70 : decode b_M_name1 70 = .ok (.return_, 1) := by decide +kernel
theorem d_M_out_0 : decode b_M_out 0 = .ok (.aload_n 0, 1) := by decide +kernel
theorem d_M_out_1 : decode b_M_out 1 = .ok (.iload_n 1, 1) := by decide +kernel
theorem d_M_out_2 : decode b_M_out 2 = .ok (.ifCond .lt 15, 3) := by decide +kernel
theorem d_M_out_5 : decode b_M_out 5 = .ok (.iload_n 1, 1) := by decide +kernel
theorem d_M_out_6 : decode b_M_out 6 = .ok (.aload_n 0, 1) := by decide +kernel
theorem d_M_out_7 : decode b_M_out 7 = .ok (.getfield 622, 3) := by decide +kernel
theorem d_M_out_10 : decode b_M_out 10 = .ok (.if_icmp .ge 7, 3) := by decide +kernel
theorem d_M_out_17 : decode b_M_out 17 = .ok (.iconst 1, 1) := by decide +kernel
theorem d_M_out_18 : decode b_M_out 18 = .ok (.putfield 189, 3) := by decide +kernel
theorem d_M_out_21 : decode b_M_out 21 = .ok (.aload_n 0, 1) := by decide +kernel
theorem d_M_out_22 : decode b_M_out 22 = .ok (.getfield 189, 3) := by decide +kernel
theorem d_M_out_25 : decode b_M_out 25 = .ok (.ifCond .le 7, 3) := by decide +kernel
theorem d_M_out_28 : decode b_M_out 28 = .ok (.lconst 0, 1) := by decide +kernel
theorem d_M_out_29 : decode b_M_out 29 = .ok (.goto 9, 3) := by decide +kernel
theorem d_M_out_38 : decode b_M_out 38 = .ok (.lreturn, 1) := by decide +kernel
theorem d_M_outs_0 : decode b_M_outs 0 = .ok (.aload_n 0, 1) := by decide +kernel
theorem d_M_outs_1 : decode b_M_outs 1 = .ok (.iconst 0, 1) := by decide +kernel
theorem d_M_outs_2 : decode b_M_outs 2 = .ok (.putfield 189, 3) := by decide +kernel
theorem d_M_outs_5 : decode b_M_outs 5 = .ok (.aload_n 0, 1) := by decide +kernel
theorem d_M_outs_6 : decode b_M_outs 6 = .ok (.getfield 622, 3) := by decide +kernel
theorem d_M_outs_9 : decode b_M_outs 9 = .ok (.ireturn, 1) := by decide +kernel
theorem d_M_pages_0 : decode b_M_pages 0 = .ok (.aload_n 0, 1) := by decide +kernel
theorem d_M_pages_1 : decode b_M_pages 1 = .ok (.aload_n 0, 1) := by decide +kernel
theorem d_M_pages_2 : decode b_M_pages 2 = .ok (.iload_n 1, 1) := by decide +kernel
theorem d_M_pages_3 : decode b_M_pages 3 = .ok (.invokevirtual 592, 3) := by decide +kernel
theorem d_M_pages_6 : decode b_M_pages 6 = .ok (.ifCond .eq 7, 3) := by decide +kernel
theorem d_M_pages_13 : decode b_M_pages 13 = .ok (.iconst 1, 1) := by decide +kernel
theorem d_M_pages_14 : decode b_M_pages 14 = .ok (.putfield 189, 3) := by decide +kernel
theorem d_M_pages_17 : decode b_M_pages 17 = .ok (.aload_n 0, 1) := by decide +kernel
theorem d_M_pages_18 : decode b_M_pages 18 = .ok (.getfield 189, 3) := by decide +kernel
theorem d_M_pages_21 : decode b_M_pages 21 = .ok (.ifCond .le 5, 3) := by decide +kernel
theorem d_M_pages_24 : decode b_M_pages 24 = .ok (.iconst 0, 1) := by decide +kernel
theorem d_M_pages_25 : decode b_M_pages 25 = .ok (.ireturn, 1) := by decide +kernel
theorem d_M_peek_0 : decode b_M_peek 0 = .ok (.aload_n 0, 1) := by decide +kernel
theorem d_M_peek_1 : decode b_M_peek 1 = .ok (.aload_n 0, 1) := by decide +kernel
theorem d_M_peek_2 : decode b_M_peek 2 = .ok (.iload_n 1, 1) := by decide +kernel
theorem d_M_peek_3 : decode b_M_peek 3 = .ok (.iload_n 2, 1) := by decide +kernel
theorem d_M_peek_4 : decode b_M_peek 4 = .ok (.invokevirtual 703, 3) := by decide +kernel
theorem d_M_peek_7 : decode b_M_peek 7 = .ok (.ifCond .eq 7, 3) := by decide +kernel
theorem d_M_peek_14 : decode b_M_peek 14 = .ok (.iconst 1, 1) := by decide +kernel
theorem d_M_peek_15 : decode b_M_peek 15 = .ok (.putfield 189, 3) := by decide +kernel
theorem d_M_peek_18 : decode b_M_peek 18 = .ok (.aload_n 0, 1) := by decide +kernel
theorem d_M_peek_19 : decode b_M_peek 19 = .ok (.getfield 189, 3) := by decide +kernel
theorem d_M_peek_22 : decode b_M_peek 22 = .ok (.ifCond .le 7, 3) := by decide +kernel
theorem d_M_peek_25 : decode b_M_peek 25 = .ok (.iconst 0, 1) := by decide +kernel
theorem d_M_peek_26 : decode b_M_peek 26 = .ok (.goto 15, 3) := by decide +kernel
theorem d_M_peek_41 : decode b_M_peek 41 = .ok (.ireturn, 1) := by decide +kernel
theorem d_M_poke_0 : decode b_M_poke 0 = .ok (.aload_n 0, 1) := by decide +kernel
theorem d_M_poke_1 : decode b_M_poke 1 = .ok (.aload_n 0, 1) := by decide +kernel
theorem d_M_poke_2 : decode b_M_poke 2 = .ok (.iload_n 1, 1) := by decide +kernel
theorem d_M_poke_3 : decode b_M_poke 3 = .ok (.iload_n 2, 1) := by decide +kernel
theorem d_M_poke_4 : decode b_M_poke 4 = .ok (.invokevirtual 703, 3) := by decide +kernel
theorem d_M_poke_7 : decode b_M_poke 7 = .ok (.ifCond .eq 7, 3) := by decide +kernel
theorem d_M_poke_14 : decode b_M_poke 14 = .ok (.iconst 1, 1) := by decide +kernel
theorem d_M_poke_15 : decode b_M_poke 15 = .ok (.putfield 189, 3) := by decide +kernel
theorem d_M_poke_18 : decode b_M_poke 18 = .ok (.aload_n 0, 1) := by decide +kernel
theorem d_M_poke_19 : decode b_M_poke 19 = .ok (.getfield 189, 3) := by decide +kernel
theorem d_M_poke_22 : decode b_M_poke 22 = .ok (.ifCond .ne 16, 3) := by decide +kernel
theorem d_M_poke_38 : decode b_M_poke 38 = .ok (.return_, 1) := by decide +kernel
theorem d_M_push_0 : decode b_M_push 0 = .ok (.aload_n 0, 1) := by decide +kernel
theorem d_M_push_1 : decode b_M_push 1 = .ok (.aload_n 0, 1) := by decide +kernel
theorem d_M_push_2 : decode b_M_push 2 = .ok (.getfield 604, 3) := by decide +kernel
theorem d_M_push_5 : decode b_M_push 5 = .ok (.sipush 1000, 3) := by decide +kernel
theorem d_M_push_8 : decode b_M_push 8 = .ok (.if_icmp .ne 7, 3) := by decide +kernel
theorem d_M_push_15 : decode b_M_push 15 = .ok (.iconst 0, 1) := by decide +kernel
theorem d_M_push_16 : decode b_M_push 16 = .ok (.putfield 189, 3) := by decide +kernel
theorem d_M_push_19 : decode b_M_push 19 = .ok (.aload_n 0, 1) := by decide +kernel
theorem d_M_push_20 : decode b_M_push 20 = .ok (.getfield 189, 3) := by decide +kernel
theorem d_M_push_23 : decode b_M_push 23 = .ok (.ifCond .le 5, 3) := by decide +kernel
theorem d_M_push_28 : decode b_M_push 28 = .ok (.aload_n 0, 1) := by decide +kernel
theorem d_M_push_29 : decode b_M_push 29 = .ok (.getfield 133, 3) := by decide +kernel
theorem d_M_push_32 : decode b_M_push 32 = .ok (.aload_n 0, 1) := by decide +kernel
theorem d_M_push_33 : decode b_M_push 33 = .ok (.getfield 604, 3) := by decide +kernel
theorem d_M_push_36 : decode b_M_push 36 = .ok (.lload_n 1, 1) := by decide +kernel
theorem d_M_push_37 : decode b_M_push 37 = .ok (.lastore, 1) := by decide +kernel
theorem d_M_push_38 : decode b_M_push 38 = .ok (.aload_n 0, 1) := by decide +kernel
theorem d_M_push_39 : decode b_M_push 39 = .ok (.dup, 1) := by decide +kernel
theorem d_M_push_40 : decode b_M_push 40 = .ok (.getfield 604, 3) := by decide +kernel
theorem d_M_push_43 : decode b_M_push 43 = .ok (.iconst 1, 1) := by decide +kernel
theorem d_M_push_44 : decode b_M_push 44 = .ok (.iadd, 1) := by decide +kernel
theorem d_M_push_45 : decode b_M_push 45 = .ok (.putfield 604, 3) := by decide +kernel
theorem d_M_push_48 : decode b_M_push 48 = .ok (.aload_n 0, 1) := by decide +kernel
theorem d_M_push_49 : decode b_M_push 49 = .ok (.getfield 604, 3) := by decide +kernel
theorem d_M_push_52 : decode b_M_push 52 = .ok (.ireturn, 1) := by decide +kernel
theorem d_M_readModule_0 : decode b_M_readModule 0 = .ok (.bipush 8, 2) := by decide +kernel
theorem d_M_readModule_2 : decode b_M_readModule 2 = .ok (.newarray .int, 2) := by decide +kernel
theorem d_M_readModule_4 : decode b_M_readModule 4 = .ok (.dup, 1) := by decide +kernel
theorem d_M_readModule_5 : decode b_M_readModule 5 = .ok (.iconst 0, 1) := by decide +kernel
theorem d_M_readModule_6 : decode b_M_readModule 6 = .ok (.iconst 0, 1) := by decide +kernel
theorem d_M_readModule_7 : decode b_M_readModule 7 = .ok (.iastore, 1) := by decide +kernel
theorem d_M_readModule_8 : decode b_M_readModule 8 = .ok (.dup, 1) := by decide +kernel
theorem d_M_readModule_9 : decode b_M_readModule 9 = .ok (.iconst 1, 1) := by decide +kernel
theorem d_M_readModule_10 : decode b_M_readModule 10 = .ok (.bipush 97, 2) := by decide +kernel
theorem d_M_readModule_12 : decode b_M_readModule 12 = .ok (.iastore, 1) := by decide +kernel
theorem d_M_readModule_13 : decode b_M_readModule 13 = .ok (.dup, 1) := by decide +kernel
theorem d_M_readModule_14 : decode b_M_readModule 14 = .ok (.iconst 2, 1) := by decide +kernel
theorem d_M_readModule_15 : decode b_M_readModule 15 = .ok (.bipush 115, 2) := by decide +kernel
theorem d_M_readModule_17 : decode b_M_readModule 17 = .ok (.iastore, 1) := by decide +kernel
theorem d_M_readModule_18 : decode b_M_readModule 18 = .ok (.dup, 1) := by decide +kernel
theorem d_M_readModule_19 : decode b_M_readModule 19 = .ok (.iconst 3, 1) := by decide +kernel
theorem d_M_readModule_20 : decode b_M_readModule 20 = .ok (.bipush 109, 2) := by decide +kernel
theorem d_M_readModule_22 : decode b_M_readModule 22 = .ok (.iastore, 1) := by decide +kernel
theorem d_M_readModule_23 : decode b_M_readModule 23 = .ok (.dup, 1) := by decide +kernel
theorem d_M_readModule_24 : decode b_M_readModule 24 = .ok (.iconst 4, 1) := by decide +kernel
theorem d_M_readModule_25 : decode b_M_readModule 25 = .ok (.iconst 1, 1) := by decide +kernel
theorem d_M_readModule_26 : decode b_M_readModule 26 = .ok (.iastore, 1) := by decide +kernel
theorem d_M_readModule_27 : decode b_M_readModule 27 = .ok (.dup, 1) := by decide +kernel
theorem d_M_readModule_28 : decode b_M_readModule 28 = .ok (.iconst 5, 1) := by decide +kernel
theorem d_M_readModule_29 : decode b_M_readModule 29 = .ok (.iconst 0, 1) := by decide +kernel
theorem d_M_readModule_30 : decode b_M_readModule 30 = .ok (.iastore, 1) := by decide +kernel
theorem d_M_readModule_31 : decode b_M_readModule 31 = .ok (.dup, 1) := by decide +kernel
theorem d_M_readModule_32 : decode b_M_readModule 32 = .ok (.bipush 6, 2) := by decide +kernel
theorem d_M_readModule_34 : decode b_M_readModule 34 = .ok (.iconst 0, 1) := by decide +kernel
theorem d_M_readModule_35 : decode b_M_readModule 35 = .ok (.iastore, 1) := by decide +kernel
theorem d_M_readModule_36 : decode b_M_readModule 36 = .ok (.dup, 1) := by decide +kernel
theorem d_M_readModule_37 : decode b_M_readModule 37 = .ok (.bipush 7, 2) := by decide +kernel
theorem d_M_readModule_39 : decode b_M_readModule 39 = .ok (.iconst 0, 1) := by decide +kernel
theorem d_M_readModule_40 : decode b_M_readModule 40 = .ok (.iastore, 1) := by decide +kernel
theorem d_M_readModule_41 : decode b_M_readModule 41 = .ok (.astore_n 2, 1) := by decide +kernel
theorem d_M_readModule_42 : decode b_M_readModule 42 = .ok (.iconst 0, 1) := by decide +kernel
theorem d_M_readModule_43 : decode b_M_readModule 43 = .ok (.istore_n 3, 1) := by decide +kernel
theorem d_M_readModule_44 : decode b_M_readModule 44 = .ok (.iload_n 3, 1) := by decide +kernel
theorem d_M_readModule_45 : decode b_M_readModule 45 = .ok (.bipush 8, 2) := by decide +kernel
theorem d_M_readModule_47 : decode b_M_readModule 47 = .ok (.if_icmp .ge 51, 3) := by decide +kernel
theorem d_M_readModule_50 : decode b_M_readModule 50 = .ok (.aload_n 0, 1) := by decide +kernel
theorem d_M_readModule_51 : decode b_M_readModule 51 = .ok (.getfield 196, 3) := by decide +kernel
theorem d_M_readModule_54 : decode b_M_readModule 54 = .ok (.iload_n 3, 1) := by decide +kernel
theorem d_M_readModule_55 : decode b_M_readModule 55 = .ok (.iadd, 1) := by decide +kernel
theorem d_M_readModule_56 : decode b_M_readModule 56 = .ok (.iload_n 1, 1) := by decide +kernel
theorem d_M_readModule_57 : decode b_M_readModule 57 = .ok (.if_icmp .ge 24, 3) := by decide +kernel
theorem d_M_readModule_81 : decode b_M_readModule 81 = .ok (.aload_n 0, 1) := by decide +kernel
theorem d_M_readModule_82 : decode b_M_readModule 82 = .ok (.iconst 1, 1) := by decide +kernel
theorem d_M_readModule_83 : decode b_M_readModule 83 = .ok (.aload_n 0, 1) := by decide +kernel
theorem d_M_readModule_84 : decode b_M_readModule 84 = .ok (.getfield 196, 3) := by decide +kernel
theorem d_M_readModule_87 : decode b_M_readModule 87 = .ok (.iload_n 3, 1) := by decide +kernel
theorem d_M_readModule_88 : decode b_M_readModule 88 = .ok (.iadd, 1) := by decide +kernel
theorem d_M_readModule_89 : decode b_M_readModule 89 = .ok (.invokevirtual 208, 3) := by decide +kernel
theorem d_M_readModule_92 : decode b_M_readModule 92 = .ok (.iinc 3 1, 3) := by decide +kernel
theorem d_M_readModule_95 : decode b_M_readModule 95 = .ok (.goto (-51), 3) := by decide +kernel
theorem d_M_readModule_98 : decode b_M_readModule 98 = .ok (.aload_n 0, 1) := by decide +kernel
theorem d_M_readModule_99 : decode b_M_readModule 99 = .ok (.aload_n 0, 1) := by decide +kernel
theorem d_M_readModule_100 : decode b_M_readModule 100 = .ok (.getfield 196, 3) := by decide +kernel
theorem d_M_readModule_103 : decode b_M_readModule 103 = .ok (.bipush 8, 2) := by decide +kernel
theorem d_M_readModule_105 : decode b_M_readModule 105 = .ok (.iadd, 1) := by decide +kernel
theorem d_M_readModule_106 : decode b_M_readModule 106 = .ok (.putfield 202, 3) := by decide +kernel
theorem d_M_readModule_109 : decode b_M_readModule 109 = .ok (.iconst 0, 1) := by decide +kernel
theorem d_M_readModule_110 : decode b_M_readModule 110 = .ok (.istore_n 3, 1) := by decide +kernel
theorem d_M_readModule_111 : decode b_M_readModule 111 = .ok (.aload_n 0, 1) := by decide +kernel
theorem d_M_readModule_112 : decode b_M_readModule 112 = .ok (.getfield 193, 3) := by decide +kernel
theorem d_M_readModule_115 : decode b_M_readModule 115 = .ok (.ifCond .ne 166, 3) := by decide +kernel
theorem d_M_readModule_281 : decode b_M_readModule 281 = .ok (.aload_n 0, 1) := by decide +kernel
theorem d_M_readModule_282 : decode b_M_readModule 282 = .ok (.getfield 193, 3) := by decide +kernel
theorem d_M_readModule_285 : decode b_M_readModule 285 = .ok (.ifCond .ne 42, 3) := by decide +kernel
theorem d_M_readModule_327 : decode b_M_readModule 327 = .ok (.return_, 1) := by decide +kernel
theorem d_M_reserve_0 : decode b_M_reserve 0 = .ok (.aload_n 0, 1) := by decide +kernel
theorem d_M_reserve_1 : decode b_M_reserve 1 = .ok (.getfield 262, 3) := by decide +kernel
theorem d_M_reserve_4 : decode b_M_reserve 4 = .ok (.iload_n 1, 1) := by decide +kernel
theorem d_M_reserve_5 : decode b_M_reserve 5 = .ok (.iadd, 1) := by decide +kernel
theorem d_M_reserve_6 : decode b_M_reserve 6 = .ok (.aload_n 0, 1) := by decide +kernel
theorem d_M_reserve_7 : decode b_M_reserve 7 = .ok (.getfield 14, 3) := by decide +kernel
theorem d_M_reserve_10 : decode b_M_reserve 10 = .ok (.arraylength, 1) := by decide +kernel
theorem d_M_reserve_11 : decode b_M_reserve 11 = .ok (.if_icmp .le 44, 3) := by decide +kernel
theorem d_M_reserve_55 : decode b_M_reserve 55 = .ok (.return_, 1) := by decide +kernel
theorem d_M_result_0 : decode b_M_result 0 = .ok (.aload_n 0, 1) := by decide +kernel
theorem d_M_result_1 : decode b_M_result 1 = .ok (.iconst 0, 1) := by decide +kernel
theorem d_M_result_2 : decode b_M_result 2 = .ok (.putfield 189, 3) := by decide +kernel
theorem d_M_result_5 : decode b_M_result 5 = .ok (.aload_n 0, 1) := by decide +kernel
theorem d_M_result_6 : decode b_M_result 6 = .ok (.getfield 666, 3) := by decide +kernel
theorem d_M_result_9 : decode b_M_result 9 = .ok (.lreturn, 1) := by decide +kernel
theorem d_M_room_0 : decode b_M_room 0 = .ok (.aload_n 0, 1) := by decide +kernel
theorem d_M_room_1 : decode b_M_room 1 = .ok (.aload_n 0, 1) := by decide +kernel
theorem d_M_room_2 : decode b_M_room 2 = .ok (.iload_n 1, 1) := by decide +kernel
theorem d_M_room_3 : decode b_M_room 3 = .ok (.invokevirtual 473, 3) := by decide +kernel
theorem d_M_room_6 : decode b_M_room 6 = .ok (.ifCond .eq 22, 3) := by decide +kernel
theorem d_M_room_28 : decode b_M_room 28 = .ok (.iconst 1, 1) := by decide +kernel
theorem d_M_room_29 : decode b_M_room 29 = .ok (.putfield 189, 3) := by decide +kernel
theorem d_M_room_32 : decode b_M_room 32 = .ok (.aload_n 0, 1) := by decide +kernel
theorem d_M_room_33 : decode b_M_room 33 = .ok (.getfield 189, 3) := by decide +kernel
theorem d_M_room_36 : decode b_M_room 36 = .ok (.ifCond .le 7, 3) := by decide +kernel
theorem d_M_room_39 : decode b_M_room 39 = .ok (.iconst 0, 1) := by decide +kernel
theorem d_M_room_40 : decode b_M_room 40 = .ok (.goto 22, 3) := by decide +kernel
theorem d_M_room_62 : decode b_M_room 62 = .ok (.ireturn, 1) := by decide +kernel
theorem d_M_run_0 : decode b_M_run 0 = .ok (.aload_n 0, 1) := by decide +kernel
theorem d_M_run_1 : decode b_M_run 1 = .ok (.iload_n 1, 1) := by decide +kernel
theorem d_M_run_2 : decode b_M_run 2 = .ok (.ifCond .lt 10, 3) := by decide +kernel
theorem d_M_run_5 : decode b_M_run 5 = .ok (.iload_n 1, 1) := by decide +kernel
theorem d_M_run_6 : decode b_M_run 6 = .ok (.ldc_w 647, 3) := by decide +kernel
theorem d_M_run_9 : decode b_M_run 9 = .ok (.if_icmp .le 7, 3) := by decide +kernel
theorem d_M_run_12 : decode b_M_run 12 = .ok (.iconst 1, 1) := by decide +kernel
theorem d_M_run_13 : decode b_M_run 13 = .ok (.goto 15, 3) := by decide +kernel
theorem d_M_run_16 : decode b_M_run 16 = .ok (.aload_n 0, 1) := by decide +kernel
theorem d_M_run_17 : decode b_M_run 17 = .ok (.getfield 539, 3) := by decide +kernel
theorem d_M_run_20 : decode b_M_run 20 = .ok (.ifCond .ne 7, 3) := by decide +kernel
theorem d_M_run_23 : decode b_M_run 23 = .ok (.iconst 2, 1) := by decide +kernel
theorem d_M_run_24 : decode b_M_run 24 = .ok (.goto 4, 3) := by decide +kernel
theorem d_M_run_28 : decode b_M_run 28 = .ok (.putfield 189, 3) := by decide +kernel
theorem d_M_run_31 : decode b_M_run 31 = .ok (.aload_n 0, 1) := by decide +kernel
theorem d_M_run_32 : decode b_M_run 32 = .ok (.getfield 189, 3) := by decide +kernel
theorem d_M_run_35 : decode b_M_run 35 = .ok (.ifCond .le 5, 3) := by decide +kernel
theorem d_M_run_38 : decode b_M_run 38 = .ok (.iconst 0, 1) := by decide +kernel
theorem d_M_run_39 : decode b_M_run 39 = .ok (.ireturn, 1) := by decide +kernel
theorem d_M_stop_0 : decode b_M_stop 0 = .ok (.aload_n 0, 1) := by decide +kernel
theorem d_M_stop_1 : decode b_M_stop 1 = .ok (.iconst 0, 1) := by decide +kernel
theorem d_M_stop_2 : decode b_M_stop 2 = .ok (.putfield 189, 3) := by decide +kernel
theorem d_M_stop_5 : decode b_M_stop 5 = .ok (.aload_n 0, 1) := by decide +kernel
theorem d_M_stop_6 : decode b_M_stop 6 = .ok (.getfield 539, 3) := by decide +kernel
theorem d_M_stop_9 : decode b_M_stop 9 = .ok (.ifCond .eq 10, 3) := by decide +kernel
theorem d_M_stop_19 : decode b_M_stop 19 = .ok (.iconst 0, 1) := by decide +kernel
theorem d_M_stop_20 : decode b_M_stop 20 = .ok (.istore_n 1, 1) := by decide +kernel
theorem d_M_stop_21 : decode b_M_stop 21 = .ok (.aload_n 0, 1) := by decide +kernel
theorem d_M_stop_22 : decode b_M_stop 22 = .ok (.iconst 0, 1) := by decide +kernel
theorem d_M_stop_23 : decode b_M_stop 23 = .ok (.putfield 539, 3) := by decide +kernel
theorem d_M_stop_26 : decode b_M_stop 26 = .ok (.aload_n 0, 1) := by decide +kernel
theorem d_M_stop_27 : decode b_M_stop 27 = .ok (.iconst 0, 1) := by decide +kernel
theorem d_M_stop_28 : decode b_M_stop 28 = .ok (.putfield 616, 3) := by decide +kernel
theorem d_M_stop_31 : decode b_M_stop 31 = .ok (.iload_n 1, 1) := by decide +kernel
theorem d_M_stop_32 : decode b_M_stop 32 = .ok (.ireturn, 1) := by decide +kernel
theorem d_M_thrown_0 : decode b_M_thrown 0 = .ok (.aload_n 0, 1) := by decide +kernel
theorem d_M_thrown_1 : decode b_M_thrown 1 = .ok (.getfield 189, 3) := by decide +kernel
theorem d_M_thrown_4 : decode b_M_thrown 4 = .ok (.ireturn, 1) := by decide +kernel
theorem d_M_trap_0 : decode b_M_trap 0 = .ok (.aload_n 0, 1) := by decide +kernel
theorem d_M_trap_1 : decode b_M_trap 1 = .ok (.iload_n 1, 1) := by decide +kernel
theorem d_M_trap_2 : decode b_M_trap 2 = .ok (.ifCond .lt 12, 3) := by decide +kernel
theorem d_M_trap_5 : decode b_M_trap 5 = .ok (.iload_n 1, 1) := by decide +kernel
theorem d_M_trap_6 : decode b_M_trap 6 = .ok (.iconst 4, 1) := by decide +kernel
theorem d_M_trap_7 : decode b_M_trap 7 = .ok (.if_icmp .ge 7, 3) := by decide +kernel
theorem d_M_trap_10 : decode b_M_trap 10 = .ok (.iconst 0, 1) := by decide +kernel
theorem d_M_trap_11 : decode b_M_trap 11 = .ok (.goto 4, 3) := by decide +kernel
theorem d_M_trap_14 : decode b_M_trap 14 = .ok (.iconst 1, 1) := by decide +kernel
theorem d_M_trap_15 : decode b_M_trap 15 = .ok (.putfield 189, 3) := by decide +kernel
theorem d_M_trap_18 : decode b_M_trap 18 = .ok (.aload_n 0, 1) := by decide +kernel
theorem d_M_trap_19 : decode b_M_trap 19 = .ok (.getfield 189, 3) := by decide +kernel
theorem d_M_trap_22 : decode b_M_trap 22 = .ok (.ifCond .le 7, 3) := by decide +kernel
theorem d_M_trap_25 : decode b_M_trap 25 = .ok (.iconst 0, 1) := by decide +kernel
theorem d_M_trap_26 : decode b_M_trap 26 = .ok (.goto 9, 3) := by decide +kernel
theorem d_M_trap_29 : decode b_M_trap 29 = .ok (.aload_n 0, 1) := by decide +kernel
theorem d_M_trap_30 : decode b_M_trap 30 = .ok (.getfield 173, 3) := by decide +kernel
theorem d_M_trap_33 : decode b_M_trap 33 = .ok (.iload_n 1, 1) := by decide +kernel
theorem d_M_trap_34 : decode b_M_trap 34 = .ok (.iaload, 1) := by decide +kernel
theorem d_M_trap_35 : decode b_M_trap 35 = .ok (.ireturn, 1) := by decide +kernel
theorem d_M_variable_0 : decode b_M_variable 0 = .ok (.aload_n 0, 1) := by decide +kernel
theorem d_M_variable_1 : decode b_M_variable 1 = .ok (.aload_n 0, 1) := by decide +kernel
theorem d_M_variable_2 : decode b_M_variable 2 = .ok (.iload_n 1, 1) := by decide +kernel
theorem d_M_variable_3 : decode b_M_variable 3 = .ok (.invokevirtual 592, 3) := by decide +kernel
theorem d_M_variable_6 : decode b_M_variable 6 = .ok (.ifCond .eq 28, 3) := by decide +kernel
theorem d_M_variable_34 : decode b_M_variable 34 = .ok (.iconst 1, 1) := by decide +kernel
theorem d_M_variable_35 : decode b_M_variable 35 = .ok (.putfield 189, 3) := by decide +kernel
theorem d_M_variable_38 : decode b_M_variable 38 = .ok (.aload_n 0, 1) := by decide +kernel
theorem d_M_variable_39 : decode b_M_variable 39 = .ok (.getfield 189, 3) := by decide +kernel
theorem d_M_variable_42 : decode b_M_variable 42 = .ok (.ifCond .le 7, 3) := by decide +kernel
theorem d_M_variable_45 : decode b_M_variable 45 = .ok (.lconst 0, 1) := by decide +kernel
theorem d_M_variable_46 : decode b_M_variable 46 = .ok (.goto 15, 3) := by decide +kernel
theorem d_M_variable_61 : decode b_M_variable 61 = .ok (.lreturn, 1) := by decide +kernel
theorem d_M_wrong_0 : decode b_M_wrong 0 = .ok (.aload_n 0, 1) := by decide +kernel
theorem d_M_wrong_1 : decode b_M_wrong 1 = .ok (.iconst 0, 1) := by decide +kernel
theorem d_M_wrong_2 : decode b_M_wrong 2 = .ok (.putfield 189, 3) := by decide +kernel
theorem d_M_wrong_5 : decode b_M_wrong 5 = .ok (.aload_n 0, 1) := by decide +kernel
theorem d_M_wrong_6 : decode b_M_wrong 6 = .ok (.getfield 663, 3) := by decide +kernel
theorem d_M_wrong_9 : decode b_M_wrong 9 = .ok (.ireturn, 1) := by decide +kernel
theorem d_Machine_giveUp_0 : decode b_Machine_giveUp 0 = .ok (.aload_n 0, 1) := by decide +kernel
theorem d_Machine_giveUp_1 : decode b_Machine_giveUp 1 = .ok (.getfield 50, 3) := by decide +kernel
theorem d_Machine_giveUp_4 : decode b_Machine_giveUp 4 = .ok (.istore_n 1, 1) := by decide +kernel
theorem d_Machine_giveUp_5 : decode b_Machine_giveUp 5 = .ok (.aload_n 0, 1) := by decide +kernel
theorem d_Machine_giveUp_6 : decode b_Machine_giveUp 6 = .ok (.iconst 0, 1) := by decide +kernel
theorem d_Machine_giveUp_7 : decode b_Machine_giveUp 7 = .ok (.putfield 46, 3) := by decide +kernel
theorem d_Machine_giveUp_10 : decode b_Machine_giveUp 10 = .ok (.aload_n 0, 1) := by decide +kernel
theorem d_Machine_giveUp_11 : decode b_Machine_giveUp 11 = .ok (.iconst 0, 1) := by decide +kernel
theorem d_Machine_giveUp_12 : decode b_Machine_giveUp 12 = .ok (.putfield 50, 3) := by decide +kernel
theorem d_Machine_giveUp_15 : decode b_Machine_giveUp 15 = .ok (.iload_n 1, 1) := by decide +kernel
theorem d_Machine_giveUp_16 : decode b_Machine_giveUp 16 = .ok (.ireturn, 1) := by decide +kernel
theorem d_Machine_init_0 : decode b_Machine_init 0 = .ok (.aload_n 0, 1) := by decide +kernel
