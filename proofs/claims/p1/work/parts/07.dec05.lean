theorem d_Machine_init_1 : decode b_Machine_init 1 = .ok (.invokespecial 3, 3) := by decide +kernel
theorem d_Machine_init_4 : decode b_Machine_init 4 = .ok (.aload_n 0, 1) := by decide +kernel
theorem d_Machine_init_5 : decode b_Machine_init 5 = .ok (.new 9, 3) := by decide +kernel
theorem d_Machine_init_8 : decode b_Machine_init 8 = .ok (.dup, 1) := by decide +kernel
theorem d_Machine_init_9 : decode b_Machine_init 9 = .ok (.bipush 24, 2) := by decide +kernel
theorem d_Machine_init_11 : decode b_Machine_init 11 = .ok (.bipush 127, 2) := by decide +kernel
theorem d_Machine_init_13 : decode b_Machine_init 13 = .ok (.ldc2_w 11, 3) := by decide +kernel
theorem d_Machine_init_16 : decode b_Machine_init 16 = .ok (.invokespecial 13, 3) := by decide +kernel
theorem d_Machine_init_19 : decode b_Machine_init 19 = .ok (.putfield 16, 3) := by decide +kernel
theorem d_Machine_init_22 : decode b_Machine_init 22 = .ok (.aload_n 0, 1) := by decide +kernel
theorem d_Machine_init_23 : decode b_Machine_init 23 = .ok (.new 9, 3) := by decide +kernel
theorem d_Machine_init_26 : decode b_Machine_init 26 = .ok (.dup, 1) := by decide +kernel
theorem d_Machine_init_27 : decode b_Machine_init 27 = .ok (.bipush 53, 2) := by decide +kernel
theorem d_Machine_init_29 : decode b_Machine_init 29 = .ok (.sipush 1023, 3) := by decide +kernel
theorem d_Machine_init_32 : decode b_Machine_init 32 = .ok (.ldc2_w 22, 3) := by decide +kernel
theorem d_Machine_init_35 : decode b_Machine_init 35 = .ok (.invokespecial 13, 3) := by decide +kernel
theorem d_Machine_init_38 : decode b_Machine_init 38 = .ok (.putfield 24, 3) := by decide +kernel
theorem d_Machine_init_41 : decode b_Machine_init 41 = .ok (.aload_n 0, 1) := by decide +kernel
theorem d_Machine_init_42 : decode b_Machine_init 42 = .ok (.iconst 4, 1) := by decide +kernel
theorem d_Machine_init_43 : decode b_Machine_init 43 = .ok (.newarray .int, 2) := by decide +kernel
theorem d_Machine_init_45 : decode b_Machine_init 45 = .ok (.dup, 1) := by decide +kernel
theorem d_Machine_init_46 : decode b_Machine_init 46 = .ok (.iconst 0, 1) := by decide +kernel
theorem d_Machine_init_47 : decode b_Machine_init 47 = .ok (.iconst 0, 1) := by decide +kernel
theorem d_Machine_init_48 : decode b_Machine_init 48 = .ok (.iastore, 1) := by decide +kernel
theorem d_Machine_init_49 : decode b_Machine_init 49 = .ok (.dup, 1) := by decide +kernel
theorem d_Machine_init_50 : decode b_Machine_init 50 = .ok (.iconst 1, 1) := by decide +kernel
theorem d_Machine_init_51 : decode b_Machine_init 51 = .ok (.iconst (-1), 1) := by decide +kernel
theorem d_Machine_init_52 : decode b_Machine_init 52 = .ok (.iastore, 1) := by decide +kernel
theorem d_Machine_init_53 : decode b_Machine_init 53 = .ok (.dup, 1) := by decide +kernel
theorem d_Machine_init_54 : decode b_Machine_init 54 = .ok (.iconst 2, 1) := by decide +kernel
theorem d_Machine_init_55 : decode b_Machine_init 55 = .ok (.iconst (-1), 1) := by decide +kernel
theorem d_Machine_init_56 : decode b_Machine_init 56 = .ok (.iastore, 1) := by decide +kernel
theorem d_Machine_init_57 : decode b_Machine_init 57 = .ok (.dup, 1) := by decide +kernel
theorem d_Machine_init_58 : decode b_Machine_init 58 = .ok (.iconst 3, 1) := by decide +kernel
theorem d_Machine_init_59 : decode b_Machine_init 59 = .ok (.iconst (-1), 1) := by decide +kernel
theorem d_Machine_init_60 : decode b_Machine_init 60 = .ok (.iastore, 1) := by decide +kernel
theorem d_Machine_init_61 : decode b_Machine_init 61 = .ok (.putfield 27, 3) := by decide +kernel
theorem d_Machine_init_64 : decode b_Machine_init 64 = .ok (.aload_n 0, 1) := by decide +kernel
theorem d_Machine_init_65 : decode b_Machine_init 65 = .ok (.iconst (-1), 1) := by decide +kernel
theorem d_Machine_init_66 : decode b_Machine_init 66 = .ok (.putfield 31, 3) := by decide +kernel
theorem d_Machine_init_69 : decode b_Machine_init 69 = .ok (.aload_n 0, 1) := by decide +kernel
theorem d_Machine_init_70 : decode b_Machine_init 70 = .ok (.bipush 64, 2) := by decide +kernel
theorem d_Machine_init_72 : decode b_Machine_init 72 = .ok (.newarray .long, 2) := by decide +kernel
theorem d_Machine_init_74 : decode b_Machine_init 74 = .ok (.putfield 35, 3) := by decide +kernel
theorem d_Machine_init_77 : decode b_Machine_init 77 = .ok (.aload_n 0, 1) := by decide +kernel
theorem d_Machine_init_78 : decode b_Machine_init 78 = .ok (.sipush 1000, 3) := by decide +kernel
theorem d_Machine_init_81 : decode b_Machine_init 81 = .ok (.newarray .int, 2) := by decide +kernel
theorem d_Machine_init_83 : decode b_Machine_init 83 = .ok (.putfield 39, 3) := by decide +kernel
theorem d_Machine_init_86 : decode b_Machine_init 86 = .ok (.aload_n 0, 1) := by decide +kernel
theorem d_Machine_init_87 : decode b_Machine_init 87 = .ok (.aload_n 1, 1) := by decide +kernel
theorem d_Machine_init_88 : decode b_Machine_init 88 = .ok (.putfield 42, 3) := by decide +kernel
theorem d_Machine_init_91 : decode b_Machine_init 91 = .ok (.return_, 1) := by decide +kernel
theorem d_Reader_init_0 : decode b_Reader_init 0 = .ok (.aload_n 0, 1) := by decide +kernel
theorem d_Reader_init_1 : decode b_Reader_init 1 = .ok (.invokespecial 3, 3) := by decide +kernel
theorem d_Reader_init_4 : decode b_Reader_init 4 = .ok (.aload_n 0, 1) := by decide +kernel
theorem d_Reader_init_5 : decode b_Reader_init 5 = .ok (.sipush 200, 3) := by decide +kernel
theorem d_Reader_init_8 : decode b_Reader_init 8 = .ok (.newarray .int, 2) := by decide +kernel
theorem d_Reader_init_10 : decode b_Reader_init 10 = .ok (.putfield 9, 3) := by decide +kernel
theorem d_Reader_init_13 : decode b_Reader_init 13 = .ok (.return_, 1) := by decide +kernel
theorem d_Reader_readAll_0 : decode b_Reader_readAll 0 = .ok (.aload_n 0, 1) := by decide +kernel
theorem d_Reader_readAll_1 : decode b_Reader_readAll 1 = .ok (.aload_n 1, 1) := by decide +kernel
theorem d_Reader_readAll_2 : decode b_Reader_readAll 2 = .ok (.putfield 15, 3) := by decide +kernel
theorem d_Reader_readAll_5 : decode b_Reader_readAll 5 = .ok (.aload_n 0, 1) := by decide +kernel
theorem d_Reader_readAll_6 : decode b_Reader_readAll 6 = .ok (.aload_n 1, 1) := by decide +kernel
theorem d_Reader_readAll_7 : decode b_Reader_readAll 7 = .ok (.getfield 19, 3) := by decide +kernel
theorem d_Reader_readAll_10 : decode b_Reader_readAll 10 = .ok (.putfield 25, 3) := by decide +kernel
theorem d_Reader_readAll_13 : decode b_Reader_readAll 13 = .ok (.aload_n 0, 1) := by decide +kernel
theorem d_Reader_readAll_14 : decode b_Reader_readAll 14 = .ok (.aload_n 1, 1) := by decide +kernel
theorem d_Reader_readAll_15 : decode b_Reader_readAll 15 = .ok (.getfield 26, 3) := by decide +kernel
theorem d_Reader_readAll_18 : decode b_Reader_readAll 18 = .ok (.putfield 29, 3) := by decide +kernel
theorem d_Reader_readAll_21 : decode b_Reader_readAll 21 = .ok (.aload_n 0, 1) := by decide +kernel
theorem d_Reader_readAll_22 : decode b_Reader_readAll 22 = .ok (.aload_n 0, 1) := by decide +kernel
theorem d_Reader_readAll_23 : decode b_Reader_readAll 23 = .ok (.getfield 25, 3) := by decide +kernel
theorem d_Reader_readAll_26 : decode b_Reader_readAll 26 = .ok (.arraylength, 1) := by decide +kernel
theorem d_Reader_readAll_27 : decode b_Reader_readAll 27 = .ok (.putfield 30, 3) := by decide +kernel
theorem d_Reader_readAll_30 : decode b_Reader_readAll 30 = .ok (.iconst 0, 1) := by decide +kernel
theorem d_Reader_readAll_31 : decode b_Reader_readAll 31 = .ok (.istore_n 2, 1) := by decide +kernel
theorem d_Reader_readAll_32 : decode b_Reader_readAll 32 = .ok (.iload_n 2, 1) := by decide +kernel
theorem d_Reader_readAll_33 : decode b_Reader_readAll 33 = .ok (.getstatic 34, 3) := by decide +kernel
theorem d_Reader_readAll_36 : decode b_Reader_readAll 36 = .ok (.arraylength, 1) := by decide +kernel
theorem d_Reader_readAll_37 : decode b_Reader_readAll 37 = .ok (.if_icmp .ge 41, 3) := by decide +kernel
theorem d_Reader_readAll_40 : decode b_Reader_readAll 40 = .ok (.iload_n 2, 1) := by decide +kernel
theorem d_Reader_readAll_41 : decode b_Reader_readAll 41 = .ok (.aload_n 0, 1) := by decide +kernel
theorem d_Reader_readAll_42 : decode b_Reader_readAll 42 = .ok (.getfield 25, 3) := by decide +kernel
theorem d_Reader_readAll_45 : decode b_Reader_readAll 45 = .ok (.arraylength, 1) := by decide +kernel
theorem d_Reader_readAll_46 : decode b_Reader_readAll 46 = .ok (.if_icmp .ge 17, 3) := by decide +kernel
theorem d_Reader_readAll_63 : decode b_Reader_readAll 63 = .ok (.aload_n 0, 1) := by decide +kernel
theorem d_Reader_readAll_64 : decode b_Reader_readAll 64 = .ok (.getfield 15, 3) := by decide +kernel
theorem d_Reader_readAll_67 : decode b_Reader_readAll 67 = .ok (.iconst 1, 1) := by decide +kernel
theorem d_Reader_readAll_68 : decode b_Reader_readAll 68 = .ok (.iload_n 2, 1) := by decide +kernel
theorem d_Reader_readAll_69 : decode b_Reader_readAll 69 = .ok (.invokevirtual 37, 3) := by decide +kernel
theorem d_Row_add_0 : decode b_Row_add 0 = .ok (.aload_n 0, 1) := by decide +kernel
theorem d_Row_add_1 : decode b_Row_add 1 = .ok (.aload_n 0, 1) := by decide +kernel
theorem d_Row_add_2 : decode b_Row_add 2 = .ok (.getfield 29, 3) := by decide +kernel
theorem d_Row_add_5 : decode b_Row_add 5 = .ok (.iconst 1, 1) := by decide +kernel
theorem d_Row_add_6 : decode b_Row_add 6 = .ok (.iadd, 1) := by decide +kernel
theorem d_Row_add_7 : decode b_Row_add 7 = .ok (.invokevirtual 32, 3) := by decide +kernel
theorem d_Row_add_10 : decode b_Row_add 10 = .ok (.aload_n 0, 1) := by decide +kernel
theorem d_Row_add_11 : decode b_Row_add 11 = .ok (.getfield 13, 3) := by decide +kernel
theorem d_Row_add_14 : decode b_Row_add 14 = .ok (.aload_n 0, 1) := by decide +kernel
theorem d_Row_add_15 : decode b_Row_add 15 = .ok (.getfield 29, 3) := by decide +kernel
theorem d_Row_add_18 : decode b_Row_add 18 = .ok (.lload_n 1, 1) := by decide +kernel
theorem d_Row_add_19 : decode b_Row_add 19 = .ok (.lastore, 1) := by decide +kernel
theorem d_Row_add_20 : decode b_Row_add 20 = .ok (.aload_n 0, 1) := by decide +kernel
theorem d_Row_add_21 : decode b_Row_add 21 = .ok (.dup, 1) := by decide +kernel
theorem d_Row_add_22 : decode b_Row_add 22 = .ok (.getfield 29, 3) := by decide +kernel
theorem d_Row_add_25 : decode b_Row_add 25 = .ok (.iconst 1, 1) := by decide +kernel
theorem d_Row_add_26 : decode b_Row_add 26 = .ok (.iadd, 1) := by decide +kernel
theorem d_Row_add_27 : decode b_Row_add 27 = .ok (.putfield 29, 3) := by decide +kernel
theorem d_Row_add_30 : decode b_Row_add 30 = .ok (.return_, 1) := by decide +kernel
theorem d_Row_init_0 : decode b_Row_init 0 = .ok (.aload_n 0, 1) := by decide +kernel
theorem d_Row_init_1 : decode b_Row_init 1 = .ok (.invokespecial 1, 3) := by decide +kernel
theorem d_Row_init_4 : decode b_Row_init 4 = .ok (.aload_n 0, 1) := by decide +kernel
theorem d_Row_init_5 : decode b_Row_init 5 = .ok (.iload_n 1, 1) := by decide +kernel
theorem d_Row_init_6 : decode b_Row_init 6 = .ok (.putfield 7, 3) := by decide +kernel
theorem d_Row_init_9 : decode b_Row_init 9 = .ok (.aload_n 0, 1) := by decide +kernel
theorem d_Row_init_10 : decode b_Row_init 10 = .ok (.iconst 4, 1) := by decide +kernel
theorem d_Row_init_11 : decode b_Row_init 11 = .ok (.newarray .long, 2) := by decide +kernel
theorem d_Row_init_13 : decode b_Row_init 13 = .ok (.putfield 13, 3) := by decide +kernel
theorem d_Row_init_16 : decode b_Row_init 16 = .ok (.return_, 1) := by decide +kernel
theorem d_Row_makeRoom_0 : decode b_Row_makeRoom 0 = .ok (.iload_n 1, 1) := by decide +kernel
theorem d_Row_makeRoom_1 : decode b_Row_makeRoom 1 = .ok (.aload_n 0, 1) := by decide +kernel
theorem d_Row_makeRoom_2 : decode b_Row_makeRoom 2 = .ok (.getfield 13, 3) := by decide +kernel
theorem d_Row_makeRoom_5 : decode b_Row_makeRoom 5 = .ok (.arraylength, 1) := by decide +kernel
theorem d_Row_makeRoom_6 : decode b_Row_makeRoom 6 = .ok (.if_icmp .le 25, 3) := by decide +kernel
theorem d_Row_makeRoom_31 : decode b_Row_makeRoom 31 = .ok (.return_, 1) := by decide +kernel
theorem d_StackModule_fail_0 : decode b_StackModule_fail 0 = .ok (.aload_n 0, 1) := by decide +kernel
theorem d_StackModule_fail_1 : decode b_StackModule_fail 1 = .ok (.iload_n 1, 1) := by decide +kernel
theorem d_StackModule_fail_2 : decode b_StackModule_fail 2 = .ok (.putfield 71, 3) := by decide +kernel
theorem d_StackModule_fail_5 : decode b_StackModule_fail 5 = .ok (.aload_n 0, 1) := by decide +kernel
theorem d_StackModule_fail_6 : decode b_StackModule_fail 6 = .ok (.iload_n 2, 1) := by decide +kernel
theorem d_StackModule_fail_7 : decode b_StackModule_fail 7 = .ok (.putfield 74, 3) := by decide +kernel
theorem d_StackModule_fail_10 : decode b_StackModule_fail 10 = .ok (.new 77, 3) := by decide +kernel
theorem d_StackModule_fail_13 : decode b_StackModule_fail 13 = .ok (.dup, 1) := by decide +kernel
theorem d_StackModule_fail_14 : decode b_StackModule_fail 14 = .ok (.ldc 79, 2) := by decide +kernel
theorem d_StackModule_fail_16 : decode b_StackModule_fail 16 = .ok (.invokespecial 81, 3) := by decide +kernel
theorem d_StackModule_fail_19 : decode b_StackModule_fail 19 = .ok (.athrow, 1) := by decide +kernel
theorem d_StackModule_init_0 : decode b_StackModule_init 0 = .ok (.aload_n 0, 1) := by decide +kernel
theorem d_StackModule_init_1 : decode b_StackModule_init 1 = .ok (.invokespecial 3, 3) := by decide +kernel
theorem d_StackModule_init_4 : decode b_StackModule_init 4 = .ok (.aload_n 0, 1) := by decide +kernel
theorem d_StackModule_init_5 : decode b_StackModule_init 5 = .ok (.new 9, 3) := by decide +kernel
theorem d_StackModule_init_8 : decode b_StackModule_init 8 = .ok (.dup, 1) := by decide +kernel
theorem d_StackModule_init_9 : decode b_StackModule_init 9 = .ok (.iconst 5, 1) := by decide +kernel
theorem d_StackModule_init_10 : decode b_StackModule_init 10 = .ok (.invokespecial 11, 3) := by decide +kernel
theorem d_StackModule_init_13 : decode b_StackModule_init 13 = .ok (.putfield 14, 3) := by decide +kernel
theorem d_StackModule_init_16 : decode b_StackModule_init 16 = .ok (.aload_n 0, 1) := by decide +kernel
theorem d_StackModule_init_17 : decode b_StackModule_init 17 = .ok (.new 9, 3) := by decide +kernel
theorem d_StackModule_init_20 : decode b_StackModule_init 20 = .ok (.dup, 1) := by decide +kernel
theorem d_StackModule_init_21 : decode b_StackModule_init 21 = .ok (.bipush 7, 2) := by decide +kernel
theorem d_StackModule_init_23 : decode b_StackModule_init 23 = .ok (.invokespecial 11, 3) := by decide +kernel
theorem d_StackModule_init_26 : decode b_StackModule_init 26 = .ok (.putfield 20, 3) := by decide +kernel
theorem d_StackModule_init_29 : decode b_StackModule_init 29 = .ok (.aload_n 0, 1) := by decide +kernel
theorem d_StackModule_init_30 : decode b_StackModule_init 30 = .ok (.new 9, 3) := by decide +kernel
theorem d_StackModule_init_33 : decode b_StackModule_init 33 = .ok (.dup, 1) := by decide +kernel
theorem d_StackModule_init_34 : decode b_StackModule_init 34 = .ok (.iconst 2, 1) := by decide +kernel
theorem d_StackModule_init_35 : decode b_StackModule_init 35 = .ok (.invokespecial 11, 3) := by decide +kernel
theorem d_StackModule_init_38 : decode b_StackModule_init 38 = .ok (.putfield 23, 3) := by decide +kernel
theorem d_StackModule_init_41 : decode b_StackModule_init 41 = .ok (.aload_n 0, 1) := by decide +kernel
theorem d_StackModule_init_42 : decode b_StackModule_init 42 = .ok (.new 9, 3) := by decide +kernel
theorem d_StackModule_init_45 : decode b_StackModule_init 45 = .ok (.dup, 1) := by decide +kernel
theorem d_StackModule_init_46 : decode b_StackModule_init 46 = .ok (.iconst 3, 1) := by decide +kernel
theorem d_StackModule_init_47 : decode b_StackModule_init 47 = .ok (.invokespecial 11, 3) := by decide +kernel
theorem d_StackModule_init_50 : decode b_StackModule_init 50 = .ok (.putfield 26, 3) := by decide +kernel
theorem d_StackModule_init_53 : decode b_StackModule_init 53 = .ok (.aload_n 0, 1) := by decide +kernel
theorem d_StackModule_init_54 : decode b_StackModule_init 54 = .ok (.new 9, 3) := by decide +kernel
theorem d_StackModule_init_57 : decode b_StackModule_init 57 = .ok (.dup, 1) := by decide +kernel
theorem d_StackModule_init_58 : decode b_StackModule_init 58 = .ok (.iconst 3, 1) := by decide +kernel
theorem d_StackModule_init_59 : decode b_StackModule_init 59 = .ok (.invokespecial 11, 3) := by decide +kernel
theorem d_StackModule_init_62 : decode b_StackModule_init 62 = .ok (.putfield 29, 3) := by decide +kernel
theorem d_StackModule_init_65 : decode b_StackModule_init 65 = .ok (.aload_n 0, 1) := by decide +kernel
theorem d_StackModule_init_66 : decode b_StackModule_init 66 = .ok (.new 9, 3) := by decide +kernel
theorem d_StackModule_init_69 : decode b_StackModule_init 69 = .ok (.dup, 1) := by decide +kernel
theorem d_StackModule_init_70 : decode b_StackModule_init 70 = .ok (.iconst 4, 1) := by decide +kernel
theorem d_StackModule_init_71 : decode b_StackModule_init 71 = .ok (.invokespecial 11, 3) := by decide +kernel
theorem d_StackModule_init_74 : decode b_StackModule_init 74 = .ok (.putfield 32, 3) := by decide +kernel
theorem d_StackModule_init_77 : decode b_StackModule_init 77 = .ok (.aload_n 0, 1) := by decide +kernel
theorem d_StackModule_init_78 : decode b_StackModule_init 78 = .ok (.new 9, 3) := by decide +kernel
theorem d_StackModule_init_81 : decode b_StackModule_init 81 = .ok (.dup, 1) := by decide +kernel
theorem d_StackModule_init_82 : decode b_StackModule_init 82 = .ok (.iconst 5, 1) := by decide +kernel
theorem d_StackModule_init_83 : decode b_StackModule_init 83 = .ok (.invokespecial 11, 3) := by decide +kernel
theorem d_StackModule_init_86 : decode b_StackModule_init 86 = .ok (.putfield 35, 3) := by decide +kernel
theorem d_StackModule_init_89 : decode b_StackModule_init 89 = .ok (.aload_n 0, 1) := by decide +kernel
theorem d_StackModule_init_90 : decode b_StackModule_init 90 = .ok (.new 9, 3) := by decide +kernel
theorem d_StackModule_init_93 : decode b_StackModule_init 93 = .ok (.dup, 1) := by decide +kernel
theorem d_StackModule_init_94 : decode b_StackModule_init 94 = .ok (.iconst 5, 1) := by decide +kernel
theorem d_StackModule_init_95 : decode b_StackModule_init 95 = .ok (.invokespecial 11, 3) := by decide +kernel
theorem d_StackModule_init_98 : decode b_StackModule_init 98 = .ok (.putfield 38, 3) := by decide +kernel
theorem d_StackModule_init_101 : decode b_StackModule_init 101 = .ok (.aload_n 0, 1) := by decide +kernel
theorem d_StackModule_init_102 : decode b_StackModule_init 102 = .ok (.new 9, 3) := by decide +kernel
theorem d_StackModule_init_105 : decode b_StackModule_init 105 = .ok (.dup, 1) := by decide +kernel
theorem d_StackModule_init_106 : decode b_StackModule_init 106 = .ok (.iconst 2, 1) := by decide +kernel
theorem d_StackModule_init_107 : decode b_StackModule_init 107 = .ok (.invokespecial 11, 3) := by decide +kernel
theorem d_StackModule_init_110 : decode b_StackModule_init 110 = .ok (.putfield 41, 3) := by decide +kernel
theorem d_StackModule_init_113 : decode b_StackModule_init 113 = .ok (.aload_n 0, 1) := by decide +kernel
theorem d_StackModule_init_114 : decode b_StackModule_init 114 = .ok (.new 9, 3) := by decide +kernel
theorem d_StackModule_init_117 : decode b_StackModule_init 117 = .ok (.dup, 1) := by decide +kernel
theorem d_StackModule_init_118 : decode b_StackModule_init 118 = .ok (.iconst 5, 1) := by decide +kernel
theorem d_StackModule_init_119 : decode b_StackModule_init 119 = .ok (.invokespecial 11, 3) := by decide +kernel
theorem d_StackModule_init_122 : decode b_StackModule_init 122 = .ok (.putfield 44, 3) := by decide +kernel
theorem d_StackModule_init_125 : decode b_StackModule_init 125 = .ok (.aload_n 0, 1) := by decide +kernel
theorem d_StackModule_init_126 : decode b_StackModule_init 126 = .ok (.new 9, 3) := by decide +kernel
theorem d_StackModule_init_129 : decode b_StackModule_init 129 = .ok (.dup, 1) := by decide +kernel
theorem d_StackModule_init_130 : decode b_StackModule_init 130 = .ok (.iconst 2, 1) := by decide +kernel
theorem d_StackModule_init_131 : decode b_StackModule_init 131 = .ok (.invokespecial 11, 3) := by decide +kernel
theorem d_StackModule_init_134 : decode b_StackModule_init 134 = .ok (.putfield 47, 3) := by decide +kernel
theorem d_StackModule_init_137 : decode b_StackModule_init 137 = .ok (.aload_n 0, 1) := by decide +kernel
theorem d_StackModule_init_138 : decode b_StackModule_init 138 = .ok (.new 9, 3) := by decide +kernel
theorem d_StackModule_init_141 : decode b_StackModule_init 141 = .ok (.dup, 1) := by decide +kernel
theorem d_StackModule_init_142 : decode b_StackModule_init 142 = .ok (.iconst 5, 1) := by decide +kernel
theorem d_StackModule_init_143 : decode b_StackModule_init 143 = .ok (.invokespecial 11, 3) := by decide +kernel
theorem d_StackModule_init_146 : decode b_StackModule_init 146 = .ok (.putfield 50, 3) := by decide +kernel
theorem d_StackModule_init_149 : decode b_StackModule_init 149 = .ok (.aload_n 0, 1) := by decide +kernel
theorem d_StackModule_init_150 : decode b_StackModule_init 150 = .ok (.iconst 4, 1) := by decide +kernel
theorem d_StackModule_init_151 : decode b_StackModule_init 151 = .ok (.newarray .int, 2) := by decide +kernel
theorem d_StackModule_init_153 : decode b_StackModule_init 153 = .ok (.putfield 53, 3) := by decide +kernel
theorem d_StackModule_init_156 : decode b_StackModule_init 156 = .ok (.aload_n 0, 1) := by decide +kernel
theorem d_StackModule_init_157 : decode b_StackModule_init 157 = .ok (.iconst (-1), 1) := by decide +kernel
theorem d_StackModule_init_158 : decode b_StackModule_init 158 = .ok (.putfield 57, 3) := by decide +kernel
theorem d_StackModule_init_161 : decode b_StackModule_init 161 = .ok (.aload_n 0, 1) := by decide +kernel
theorem d_StackModule_init_162 : decode b_StackModule_init 162 = .ok (.iconst (-1), 1) := by decide +kernel
theorem d_StackModule_init_163 : decode b_StackModule_init 163 = .ok (.putfield 61, 3) := by decide +kernel
theorem d_StackModule_init_166 : decode b_StackModule_init 166 = .ok (.aload_n 0, 1) := by decide +kernel
theorem d_StackModule_init_167 : decode b_StackModule_init 167 = .ok (.aload_n 1, 1) := by decide +kernel
theorem d_StackModule_init_168 : decode b_StackModule_init 168 = .ok (.putfield 64, 3) := by decide +kernel
theorem d_StackModule_init_171 : decode b_StackModule_init 171 = .ok (.aload_n 0, 1) := by decide +kernel
theorem d_StackModule_init_172 : decode b_StackModule_init 172 = .ok (.aload_n 1, 1) := by decide +kernel
theorem d_StackModule_init_173 : decode b_StackModule_init 173 = .ok (.arraylength, 1) := by decide +kernel
theorem d_StackModule_init_174 : decode b_StackModule_init 174 = .ok (.newarray .int, 2) := by decide +kernel
theorem d_StackModule_init_176 : decode b_StackModule_init 176 = .ok (.putfield 68, 3) := by decide +kernel
theorem d_StackModule_init_179 : decode b_StackModule_init 179 = .ok (.return_, 1) := by decide +kernel
theorem d_World_init_0 : decode b_World_init 0 = .ok (.aload_n 0, 1) := by decide +kernel
theorem d_World_init_1 : decode b_World_init 1 = .ok (.invokespecial 3, 3) := by decide +kernel
theorem d_World_init_4 : decode b_World_init 4 = .ok (.aload_n 0, 1) := by decide +kernel
theorem d_World_init_5 : decode b_World_init 5 = .ok (.bipush 24, 2) := by decide +kernel
theorem d_World_init_7 : decode b_World_init 7 = .ok (.anewarray 9, 3) := by decide +kernel
theorem d_World_init_10 : decode b_World_init 10 = .ok (.putfield 11, 3) := by decide +kernel
theorem d_World_init_13 : decode b_World_init 13 = .ok (.aload_n 0, 1) := by decide +kernel
theorem d_World_init_14 : decode b_World_init 14 = .ok (.new 17, 3) := by decide +kernel
theorem d_World_init_17 : decode b_World_init 17 = .ok (.dup, 1) := by decide +kernel
theorem d_World_init_18 : decode b_World_init 18 = .ok (.iconst 1, 1) := by decide +kernel
theorem d_World_init_19 : decode b_World_init 19 = .ok (.invokespecial 19, 3) := by decide +kernel
theorem d_World_init_22 : decode b_World_init 22 = .ok (.putfield 22, 3) := by decide +kernel
theorem d_World_init_25 : decode b_World_init 25 = .ok (.aload_n 0, 1) := by decide +kernel
theorem d_World_init_26 : decode b_World_init 26 = .ok (.new 17, 3) := by decide +kernel
theorem d_World_init_29 : decode b_World_init 29 = .ok (.dup, 1) := by decide +kernel
theorem d_World_init_30 : decode b_World_init 30 = .ok (.iconst 1, 1) := by decide +kernel
theorem d_World_init_31 : decode b_World_init 31 = .ok (.invokespecial 19, 3) := by decide +kernel
theorem d_World_init_34 : decode b_World_init 34 = .ok (.putfield 26, 3) := by decide +kernel
theorem d_World_init_37 : decode b_World_init 37 = .ok (.aload_n 0, 1) := by decide +kernel
theorem d_World_init_38 : decode b_World_init 38 = .ok (.new 17, 3) := by decide +kernel
theorem d_World_init_41 : decode b_World_init 41 = .ok (.dup, 1) := by decide +kernel
theorem d_World_init_42 : decode b_World_init 42 = .ok (.iconst 1, 1) := by decide +kernel
theorem d_World_init_43 : decode b_World_init 43 = .ok (.invokespecial 19, 3) := by decide +kernel
theorem d_World_init_46 : decode b_World_init 46 = .ok (.putfield 29, 3) := by decide +kernel
theorem d_World_init_49 : decode b_World_init 49 = .ok (.aload_n 0, 1) := by decide +kernel
theorem d_World_init_50 : decode b_World_init 50 = .ok (.new 17, 3) := by decide +kernel
theorem d_World_init_53 : decode b_World_init 53 = .ok (.dup, 1) := by decide +kernel
theorem d_World_init_54 : decode b_World_init 54 = .ok (.iconst 1, 1) := by decide +kernel
theorem d_World_init_55 : decode b_World_init 55 = .ok (.invokespecial 19, 3) := by decide +kernel
theorem d_World_init_58 : decode b_World_init 58 = .ok (.putfield 32, 3) := by decide +kernel
theorem d_World_init_61 : decode b_World_init 61 = .ok (.aload_n 0, 1) := by decide +kernel
theorem d_World_init_62 : decode b_World_init 62 = .ok (.new 17, 3) := by decide +kernel
theorem d_World_init_65 : decode b_World_init 65 = .ok (.dup, 1) := by decide +kernel
theorem d_World_init_66 : decode b_World_init 66 = .ok (.iconst 1, 1) := by decide +kernel
theorem d_World_init_67 : decode b_World_init 67 = .ok (.invokespecial 19, 3) := by decide +kernel
theorem d_World_init_70 : decode b_World_init 70 = .ok (.putfield 35, 3) := by decide +kernel
theorem d_World_init_73 : decode b_World_init 73 = .ok (.aload_n 0, 1) := by decide +kernel
theorem d_World_init_74 : decode b_World_init 74 = .ok (.new 17, 3) := by decide +kernel
theorem d_World_init_77 : decode b_World_init 77 = .ok (.dup, 1) := by decide +kernel
theorem d_World_init_78 : decode b_World_init 78 = .ok (.iconst 3, 1) := by decide +kernel
theorem d_World_init_79 : decode b_World_init 79 = .ok (.invokespecial 19, 3) := by decide +kernel
theorem d_World_init_82 : decode b_World_init 82 = .ok (.putfield 38, 3) := by decide +kernel
theorem d_World_init_85 : decode b_World_init 85 = .ok (.aload_n 0, 1) := by decide +kernel
theorem d_World_init_86 : decode b_World_init 86 = .ok (.bipush 16, 2) := by decide +kernel
theorem d_World_init_88 : decode b_World_init 88 = .ok (.newarray .byte, 2) := by decide +kernel
theorem d_World_init_90 : decode b_World_init 90 = .ok (.putfield 41, 3) := by decide +kernel
theorem d_World_init_93 : decode b_World_init 93 = .ok (.aload_n 0, 1) := by decide +kernel
theorem d_World_init_94 : decode b_World_init 94 = .ok (.new 17, 3) := by decide +kernel
theorem d_World_init_97 : decode b_World_init 97 = .ok (.dup, 1) := by decide +kernel
theorem d_World_init_98 : decode b_World_init 98 = .ok (.iconst 1, 1) := by decide +kernel
theorem d_World_init_99 : decode b_World_init 99 = .ok (.invokespecial 19, 3) := by decide +kernel
theorem d_World_init_102 : decode b_World_init 102 = .ok (.putfield 45, 3) := by decide +kernel
theorem d_World_init_105 : decode b_World_init 105 = .ok (.aload_n 0, 1) := by decide +kernel
theorem d_World_init_106 : decode b_World_init 106 = .ok (.new 17, 3) := by decide +kernel
theorem d_World_init_109 : decode b_World_init 109 = .ok (.dup, 1) := by decide +kernel
theorem d_World_init_110 : decode b_World_init 110 = .ok (.iconst 1, 1) := by decide +kernel
theorem d_World_init_111 : decode b_World_init 111 = .ok (.invokespecial 19, 3) := by decide +kernel
theorem d_World_init_114 : decode b_World_init 114 = .ok (.putfield 48, 3) := by decide +kernel
theorem d_World_init_117 : decode b_World_init 117 = .ok (.return_, 1) := by decide +kernel
