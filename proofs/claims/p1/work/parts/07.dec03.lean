theorem d_M_element_21 : decode b_M_element 21 = .ok (.ifCond .lt 21, 3) := by decide +kernel
theorem d_M_element_42 : decode b_M_element 42 = .ok (.iconst 1, 1) := by decide +kernel
theorem d_M_element_43 : decode b_M_element 43 = .ok (.putfield 189, 3) := by decide +kernel
theorem d_M_element_46 : decode b_M_element 46 = .ok (.aload_n 0, 1) := by decide +kernel
theorem d_M_element_47 : decode b_M_element 47 = .ok (.getfield 189, 3) := by decide +kernel
theorem d_M_element_50 : decode b_M_element 50 = .ok (.ifCond .le 5, 3) := by decide +kernel
theorem d_M_element_53 : decode b_M_element 53 = .ok (.iconst 0, 1) := by decide +kernel
theorem d_M_element_54 : decode b_M_element 54 = .ok (.ireturn, 1) := by decide +kernel
theorem d_M_end_0 : decode b_M_end 0 = .ok (.aload_n 0, 1) := by decide +kernel
theorem d_M_end_1 : decode b_M_end 1 = .ok (.iload_n 1, 1) := by decide +kernel
theorem d_M_end_2 : decode b_M_end 2 = .ok (.ifCond .lt 11, 3) := by decide +kernel
theorem d_M_end_5 : decode b_M_end 5 = .ok (.iload_n 1, 1) := by decide +kernel
theorem d_M_end_6 : decode b_M_end 6 = .ok (.aload_n 0, 1) := by decide +kernel
theorem d_M_end_7 : decode b_M_end 7 = .ok (.getfield 265, 3) := by decide +kernel
theorem d_M_end_10 : decode b_M_end 10 = .ok (.if_icmp .le 7, 3) := by decide +kernel
theorem d_M_end_13 : decode b_M_end 13 = .ok (.iconst 1, 1) := by decide +kernel
theorem d_M_end_14 : decode b_M_end 14 = .ok (.goto 4, 3) := by decide +kernel
theorem d_M_end_17 : decode b_M_end 17 = .ok (.iconst 0, 1) := by decide +kernel
theorem d_M_end_18 : decode b_M_end 18 = .ok (.putfield 189, 3) := by decide +kernel
theorem d_M_end_21 : decode b_M_end 21 = .ok (.aload_n 0, 1) := by decide +kernel
theorem d_M_end_22 : decode b_M_end 22 = .ok (.aload_n 0, 1) := by decide +kernel
theorem d_M_end_23 : decode b_M_end 23 = .ok (.getfield 189, 3) := by decide +kernel
theorem d_M_end_26 : decode b_M_end 26 = .ok (.ifCond .le 10, 3) := by decide +kernel
theorem d_M_end_29 : decode b_M_end 29 = .ok (.aload_n 0, 1) := by decide +kernel
theorem d_M_end_30 : decode b_M_end 30 = .ok (.getfield 265, 3) := by decide +kernel
theorem d_M_end_33 : decode b_M_end 33 = .ok (.goto 4, 3) := by decide +kernel
theorem d_M_end_36 : decode b_M_end 36 = .ok (.iload_n 1, 1) := by decide +kernel
theorem d_M_end_37 : decode b_M_end 37 = .ok (.putfield 265, 3) := by decide +kernel
theorem d_M_end_40 : decode b_M_end 40 = .ok (.return_, 1) := by decide +kernel
theorem d_M_exported_0 : decode b_M_exported 0 = .ok (.aload_n 0, 1) := by decide +kernel
theorem d_M_exported_1 : decode b_M_exported 1 = .ok (.aload_n 0, 1) := by decide +kernel
theorem d_M_exported_2 : decode b_M_exported 2 = .ok (.iload_n 1, 1) := by decide +kernel
theorem d_M_exported_3 : decode b_M_exported 3 = .ok (.iload_n 2, 1) := by decide +kernel
theorem d_M_exported_4 : decode b_M_exported 4 = .ok (.invokevirtual 595, 3) := by decide +kernel
theorem d_M_exported_7 : decode b_M_exported 7 = .ok (.ifCond .eq 16, 3) := by decide +kernel
theorem d_M_exported_23 : decode b_M_exported 23 = .ok (.iconst 1, 1) := by decide +kernel
theorem d_M_exported_24 : decode b_M_exported 24 = .ok (.putfield 189, 3) := by decide +kernel
theorem d_M_exported_27 : decode b_M_exported 27 = .ok (.aload_n 0, 1) := by decide +kernel
theorem d_M_exported_28 : decode b_M_exported 28 = .ok (.getfield 189, 3) := by decide +kernel
theorem d_M_exported_31 : decode b_M_exported 31 = .ok (.ifCond .le 5, 3) := by decide +kernel
theorem d_M_exported_34 : decode b_M_exported 34 = .ok (.iconst 0, 1) := by decide +kernel
theorem d_M_exported_35 : decode b_M_exported 35 = .ok (.ireturn, 1) := by decide +kernel
theorem d_M_fail_0 : decode b_M_fail 0 = .ok (.aload_n 0, 1) := by decide +kernel
theorem d_M_fail_1 : decode b_M_fail 1 = .ok (.getfield 193, 3) := by decide +kernel
theorem d_M_fail_4 : decode b_M_fail 4 = .ok (.ifCond .ne 18, 3) := by decide +kernel
theorem d_M_fail_7 : decode b_M_fail 7 = .ok (.aload_n 0, 1) := by decide +kernel
theorem d_M_fail_8 : decode b_M_fail 8 = .ok (.iload_n 1, 1) := by decide +kernel
theorem d_M_fail_9 : decode b_M_fail 9 = .ok (.putfield 193, 3) := by decide +kernel
theorem d_M_fail_12 : decode b_M_fail 12 = .ok (.aload_n 0, 1) := by decide +kernel
theorem d_M_fail_13 : decode b_M_fail 13 = .ok (.iload_n 2, 1) := by decide +kernel
theorem d_M_fail_14 : decode b_M_fail 14 = .ok (.aload_n 0, 1) := by decide +kernel
theorem d_M_fail_15 : decode b_M_fail 15 = .ok (.getfield 196, 3) := by decide +kernel
theorem d_M_fail_18 : decode b_M_fail 18 = .ok (.isub, 1) := by decide +kernel
theorem d_M_fail_19 : decode b_M_fail 19 = .ok (.putfield 199, 3) := by decide +kernel
theorem d_M_fail_22 : decode b_M_fail 22 = .ok (.return_, 1) := by decide +kernel
theorem d_M_fault_0 : decode b_M_fault 0 = .ok (.aload_n 0, 1) := by decide +kernel
theorem d_M_fault_1 : decode b_M_fault 1 = .ok (.iload_n 1, 1) := by decide +kernel
theorem d_M_fault_2 : decode b_M_fault 2 = .ok (.ifCond .eq 8, 3) := by decide +kernel
theorem d_M_fault_5 : decode b_M_fault 5 = .ok (.iload_n 1, 1) := by decide +kernel
theorem d_M_fault_6 : decode b_M_fault 6 = .ok (.iconst 1, 1) := by decide +kernel
theorem d_M_fault_7 : decode b_M_fault 7 = .ok (.if_icmp .ne 7, 3) := by decide +kernel
theorem d_M_fault_10 : decode b_M_fault 10 = .ok (.iconst 0, 1) := by decide +kernel
theorem d_M_fault_11 : decode b_M_fault 11 = .ok (.goto 4, 3) := by decide +kernel
theorem d_M_fault_14 : decode b_M_fault 14 = .ok (.iconst 1, 1) := by decide +kernel
theorem d_M_fault_15 : decode b_M_fault 15 = .ok (.putfield 189, 3) := by decide +kernel
theorem d_M_fault_18 : decode b_M_fault 18 = .ok (.aload_n 0, 1) := by decide +kernel
theorem d_M_fault_19 : decode b_M_fault 19 = .ok (.getfield 189, 3) := by decide +kernel
theorem d_M_fault_22 : decode b_M_fault 22 = .ok (.ifCond .le 7, 3) := by decide +kernel
theorem d_M_fault_25 : decode b_M_fault 25 = .ok (.iconst 0, 1) := by decide +kernel
theorem d_M_fault_26 : decode b_M_fault 26 = .ok (.goto 9, 3) := by decide +kernel
theorem d_M_fault_29 : decode b_M_fault 29 = .ok (.aload_n 0, 1) := by decide +kernel
theorem d_M_fault_30 : decode b_M_fault 30 = .ok (.getfield 179, 3) := by decide +kernel
theorem d_M_fault_33 : decode b_M_fault 33 = .ok (.iload_n 1, 1) := by decide +kernel
theorem d_M_fault_34 : decode b_M_fault 34 = .ok (.iaload, 1) := by decide +kernel
theorem d_M_fault_35 : decode b_M_fault 35 = .ok (.ireturn, 1) := by decide +kernel
theorem d_M_feed_0 : decode b_M_feed 0 = .ok (.aload_n 0, 1) := by decide +kernel
theorem d_M_feed_1 : decode b_M_feed 1 = .ok (.aload_n 0, 1) := by decide +kernel
theorem d_M_feed_2 : decode b_M_feed 2 = .ok (.getfield 265, 3) := by decide +kernel
theorem d_M_feed_5 : decode b_M_feed 5 = .ok (.bipush 20, 2) := by decide +kernel
theorem d_M_feed_7 : decode b_M_feed 7 = .ok (.iadd, 1) := by decide +kernel
theorem d_M_feed_8 : decode b_M_feed 8 = .ok (.aload_n 0, 1) := by decide +kernel
theorem d_M_feed_9 : decode b_M_feed 9 = .ok (.getfield 8, 3) := by decide +kernel
theorem d_M_feed_12 : decode b_M_feed 12 = .ok (.arraylength, 1) := by decide +kernel
theorem d_M_feed_13 : decode b_M_feed 13 = .ok (.if_icmp .le 7, 3) := by decide +kernel
theorem d_M_feed_20 : decode b_M_feed 20 = .ok (.iconst 0, 1) := by decide +kernel
theorem d_M_feed_21 : decode b_M_feed 21 = .ok (.putfield 189, 3) := by decide +kernel
theorem d_M_feed_24 : decode b_M_feed 24 = .ok (.aload_n 0, 1) := by decide +kernel
theorem d_M_feed_25 : decode b_M_feed 25 = .ok (.getfield 189, 3) := by decide +kernel
theorem d_M_feed_28 : decode b_M_feed 28 = .ok (.ifCond .le 5, 3) := by decide +kernel
theorem d_M_feed_33 : decode b_M_feed 33 = .ok (.iconst 0, 1) := by decide +kernel
theorem d_M_feed_34 : decode b_M_feed 34 = .ok (.istore 6, 2) := by decide +kernel
theorem d_M_feed_36 : decode b_M_feed 36 = .ok (.iload 6, 2) := by decide +kernel
theorem d_M_feed_38 : decode b_M_feed 38 = .ok (.bipush 20, 2) := by decide +kernel
theorem d_M_feed_40 : decode b_M_feed 40 = .ok (.if_icmp .ge 83, 3) := by decide +kernel
theorem d_M_feed_43 : decode b_M_feed 43 = .ok (.iload 6, 2) := by decide +kernel
theorem d_M_feed_45 : decode b_M_feed 45 = .ok (.iconst 4, 1) := by decide +kernel
theorem d_M_feed_46 : decode b_M_feed 46 = .ok (.if_icmp .ge 7, 3) := by decide +kernel
theorem d_M_feed_49 : decode b_M_feed 49 = .ok (.iload_n 1, 1) := by decide +kernel
theorem d_M_feed_50 : decode b_M_feed 50 = .ok (.goto 39, 3) := by decide +kernel
theorem d_M_feed_53 : decode b_M_feed 53 = .ok (.iload 6, 2) := by decide +kernel
theorem d_M_feed_55 : decode b_M_feed 55 = .ok (.bipush 8, 2) := by decide +kernel
theorem d_M_feed_57 : decode b_M_feed 57 = .ok (.if_icmp .ge 7, 3) := by decide +kernel
theorem d_M_feed_60 : decode b_M_feed 60 = .ok (.iload_n 2, 1) := by decide +kernel
theorem d_M_feed_61 : decode b_M_feed 61 = .ok (.goto 28, 3) := by decide +kernel
theorem d_M_feed_64 : decode b_M_feed 64 = .ok (.iload 6, 2) := by decide +kernel
theorem d_M_feed_66 : decode b_M_feed 66 = .ok (.bipush 12, 2) := by decide +kernel
theorem d_M_feed_68 : decode b_M_feed 68 = .ok (.if_icmp .ge 7, 3) := by decide +kernel
theorem d_M_feed_71 : decode b_M_feed 71 = .ok (.iload_n 3, 1) := by decide +kernel
theorem d_M_feed_72 : decode b_M_feed 72 = .ok (.goto 17, 3) := by decide +kernel
theorem d_M_feed_75 : decode b_M_feed 75 = .ok (.iload 6, 2) := by decide +kernel
theorem d_M_feed_77 : decode b_M_feed 77 = .ok (.bipush 16, 2) := by decide +kernel
theorem d_M_feed_79 : decode b_M_feed 79 = .ok (.if_icmp .ge 8, 3) := by decide +kernel
theorem d_M_feed_82 : decode b_M_feed 82 = .ok (.iload 4, 2) := by decide +kernel
theorem d_M_feed_84 : decode b_M_feed 84 = .ok (.goto 5, 3) := by decide +kernel
theorem d_M_feed_87 : decode b_M_feed 87 = .ok (.iload 5, 2) := by decide +kernel
theorem d_M_feed_89 : decode b_M_feed 89 = .ok (.istore 7, 2) := by decide +kernel
theorem d_M_feed_91 : decode b_M_feed 91 = .ok (.aload_n 0, 1) := by decide +kernel
theorem d_M_feed_92 : decode b_M_feed 92 = .ok (.getfield 8, 3) := by decide +kernel
theorem d_M_feed_95 : decode b_M_feed 95 = .ok (.aload_n 0, 1) := by decide +kernel
theorem d_M_feed_96 : decode b_M_feed 96 = .ok (.getfield 265, 3) := by decide +kernel
theorem d_M_feed_99 : decode b_M_feed 99 = .ok (.iload 6, 2) := by decide +kernel
theorem d_M_feed_101 : decode b_M_feed 101 = .ok (.iadd, 1) := by decide +kernel
theorem d_M_feed_102 : decode b_M_feed 102 = .ok (.iload 7, 2) := by decide +kernel
theorem d_M_feed_104 : decode b_M_feed 104 = .ok (.bipush 24, 2) := by decide +kernel
theorem d_M_feed_106 : decode b_M_feed 106 = .ok (.bipush 8, 2) := by decide +kernel
theorem d_M_feed_108 : decode b_M_feed 108 = .ok (.iload 6, 2) := by decide +kernel
theorem d_M_feed_110 : decode b_M_feed 110 = .ok (.iconst 4, 1) := by decide +kernel
theorem d_M_feed_111 : decode b_M_feed 111 = .ok (.irem, 1) := by decide +kernel
theorem d_M_feed_112 : decode b_M_feed 112 = .ok (.imul, 1) := by decide +kernel
theorem d_M_feed_113 : decode b_M_feed 113 = .ok (.isub, 1) := by decide +kernel
theorem d_M_feed_114 : decode b_M_feed 114 = .ok (.ishr, 1) := by decide +kernel
theorem d_M_feed_115 : decode b_M_feed 115 = .ok (.i2b, 1) := by decide +kernel
theorem d_M_feed_116 : decode b_M_feed 116 = .ok (.bastore, 1) := by decide +kernel
theorem d_M_feed_117 : decode b_M_feed 117 = .ok (.iinc 6 1, 3) := by decide +kernel
theorem d_M_feed_120 : decode b_M_feed 120 = .ok (.goto (-84), 3) := by decide +kernel
theorem d_M_feed_123 : decode b_M_feed 123 = .ok (.aload_n 0, 1) := by decide +kernel
theorem d_M_feed_124 : decode b_M_feed 124 = .ok (.aload_n 0, 1) := by decide +kernel
theorem d_M_feed_125 : decode b_M_feed 125 = .ok (.getfield 265, 3) := by decide +kernel
theorem d_M_feed_128 : decode b_M_feed 128 = .ok (.bipush 20, 2) := by decide +kernel
theorem d_M_feed_130 : decode b_M_feed 130 = .ok (.iadd, 1) := by decide +kernel
theorem d_M_feed_131 : decode b_M_feed 131 = .ok (.putfield 265, 3) := by decide +kernel
theorem d_M_feed_134 : decode b_M_feed 134 = .ok (.aload_n 0, 1) := by decide +kernel
theorem d_M_feed_135 : decode b_M_feed 135 = .ok (.getfield 265, 3) := by decide +kernel
theorem d_M_feed_138 : decode b_M_feed 138 = .ok (.ireturn, 1) := by decide +kernel
theorem d_M_find_0 : decode b_M_find 0 = .ok (.aload_n 0, 1) := by decide +kernel
theorem d_M_find_1 : decode b_M_find 1 = .ok (.aload_n 0, 1) := by decide +kernel
theorem d_M_find_2 : decode b_M_find 2 = .ok (.iload_n 1, 1) := by decide +kernel
theorem d_M_find_3 : decode b_M_find 3 = .ok (.invokevirtual 592, 3) := by decide +kernel
theorem d_M_find_6 : decode b_M_find 6 = .ok (.ifCond .eq 7, 3) := by decide +kernel
theorem d_M_find_13 : decode b_M_find 13 = .ok (.iconst 1, 1) := by decide +kernel
theorem d_M_find_14 : decode b_M_find 14 = .ok (.putfield 189, 3) := by decide +kernel
theorem d_M_find_17 : decode b_M_find 17 = .ok (.aload_n 0, 1) := by decide +kernel
theorem d_M_find_18 : decode b_M_find 18 = .ok (.getfield 189, 3) := by decide +kernel
theorem d_M_find_21 : decode b_M_find 21 = .ok (.ifCond .le 5, 3) := by decide +kernel
theorem d_M_find_24 : decode b_M_find 24 = .ok (.iconst 0, 1) := by decide +kernel
theorem d_M_find_25 : decode b_M_find 25 = .ok (.ireturn, 1) := by decide +kernel
theorem d_M_init_0 : decode b_M_init 0 = .ok (.aload_n 0, 1) := by decide +kernel
theorem d_M_init_1 : decode b_M_init 1 = .ok (.invokespecial 1, 3) := by decide +kernel
theorem d_M_init_4 : decode b_M_init 4 = .ok (.aload_n 0, 1) := by decide +kernel
theorem d_M_init_5 : decode b_M_init 5 = .ok (.ldc 7, 2) := by decide +kernel
theorem d_M_init_7 : decode b_M_init 7 = .ok (.newarray .byte, 2) := by decide +kernel
theorem d_M_init_9 : decode b_M_init 9 = .ok (.putfield 8, 3) := by decide +kernel
theorem d_M_init_12 : decode b_M_init 12 = .ok (.aload_n 0, 1) := by decide +kernel
theorem d_M_init_13 : decode b_M_init 13 = .ok (.sipush 16384, 3) := by decide +kernel
theorem d_M_init_16 : decode b_M_init 16 = .ok (.newarray .byte, 2) := by decide +kernel
theorem d_M_init_18 : decode b_M_init 18 = .ok (.putfield 14, 3) := by decide +kernel
theorem d_M_init_21 : decode b_M_init 21 = .ok (.aload_n 0, 1) := by decide +kernel
theorem d_M_init_22 : decode b_M_init 22 = .ok (.bipush 64, 2) := by decide +kernel
theorem d_M_init_24 : decode b_M_init 24 = .ok (.newarray .int, 2) := by decide +kernel
theorem d_M_init_26 : decode b_M_init 26 = .ok (.putfield 17, 3) := by decide +kernel
theorem d_M_init_29 : decode b_M_init 29 = .ok (.aload_n 0, 1) := by decide +kernel
theorem d_M_init_30 : decode b_M_init 30 = .ok (.bipush 64, 2) := by decide +kernel
theorem d_M_init_32 : decode b_M_init 32 = .ok (.newarray .int, 2) := by decide +kernel
theorem d_M_init_34 : decode b_M_init 34 = .ok (.putfield 21, 3) := by decide +kernel
theorem d_M_init_37 : decode b_M_init 37 = .ok (.aload_n 0, 1) := by decide +kernel
theorem d_M_init_38 : decode b_M_init 38 = .ok (.sipush 768, 3) := by decide +kernel
theorem d_M_init_41 : decode b_M_init 41 = .ok (.newarray .int, 2) := by decide +kernel
theorem d_M_init_43 : decode b_M_init 43 = .ok (.putfield 24, 3) := by decide +kernel
theorem d_M_init_46 : decode b_M_init 46 = .ok (.aload_n 0, 1) := by decide +kernel
theorem d_M_init_47 : decode b_M_init 47 = .ok (.sipush 768, 3) := by decide +kernel
theorem d_M_init_50 : decode b_M_init 50 = .ok (.newarray .int, 2) := by decide +kernel
theorem d_M_init_52 : decode b_M_init 52 = .ok (.putfield 27, 3) := by decide +kernel
theorem d_M_init_55 : decode b_M_init 55 = .ok (.aload_n 0, 1) := by decide +kernel
theorem d_M_init_56 : decode b_M_init 56 = .ok (.sipush 256, 3) := by decide +kernel
theorem d_M_init_59 : decode b_M_init 59 = .ok (.newarray .int, 2) := by decide +kernel
theorem d_M_init_61 : decode b_M_init 61 = .ok (.putfield 30, 3) := by decide +kernel
theorem d_M_init_64 : decode b_M_init 64 = .ok (.aload_n 0, 1) := by decide +kernel
theorem d_M_init_65 : decode b_M_init 65 = .ok (.sipush 2048, 3) := by decide +kernel
theorem d_M_init_68 : decode b_M_init 68 = .ok (.newarray .int, 2) := by decide +kernel
theorem d_M_init_70 : decode b_M_init 70 = .ok (.putfield 33, 3) := by decide +kernel
theorem d_M_init_73 : decode b_M_init 73 = .ok (.aload_n 0, 1) := by decide +kernel
theorem d_M_init_74 : decode b_M_init 74 = .ok (.sipush 2048, 3) := by decide +kernel
theorem d_M_init_77 : decode b_M_init 77 = .ok (.newarray .int, 2) := by decide +kernel
theorem d_M_init_79 : decode b_M_init 79 = .ok (.putfield 36, 3) := by decide +kernel
theorem d_M_init_82 : decode b_M_init 82 = .ok (.aload_n 0, 1) := by decide +kernel
theorem d_M_init_83 : decode b_M_init 83 = .ok (.ldc 39, 2) := by decide +kernel
theorem d_M_init_85 : decode b_M_init 85 = .ok (.newarray .byte, 2) := by decide +kernel
theorem d_M_init_87 : decode b_M_init 87 = .ok (.putfield 40, 3) := by decide +kernel
theorem d_M_init_90 : decode b_M_init 90 = .ok (.aload_n 0, 1) := by decide +kernel
theorem d_M_init_91 : decode b_M_init 91 = .ok (.ldc 39, 2) := by decide +kernel
theorem d_M_init_93 : decode b_M_init 93 = .ok (.newarray .byte, 2) := by decide +kernel
theorem d_M_init_95 : decode b_M_init 95 = .ok (.putfield 43, 3) := by decide +kernel
theorem d_M_init_98 : decode b_M_init 98 = .ok (.aload_n 0, 1) := by decide +kernel
theorem d_M_init_99 : decode b_M_init 99 = .ok (.sipush 202, 3) := by decide +kernel
theorem d_M_init_102 : decode b_M_init 102 = .ok (.newarray .int, 2) := by decide +kernel
theorem d_M_init_104 : decode b_M_init 104 = .ok (.putfield 46, 3) := by decide +kernel
theorem d_M_init_107 : decode b_M_init 107 = .ok (.aload_n 0, 1) := by decide +kernel
theorem d_M_init_108 : decode b_M_init 108 = .ok (.sipush 202, 3) := by decide +kernel
theorem d_M_init_111 : decode b_M_init 111 = .ok (.newarray .int, 2) := by decide +kernel
theorem d_M_init_113 : decode b_M_init 113 = .ok (.putfield 49, 3) := by decide +kernel
theorem d_M_init_116 : decode b_M_init 116 = .ok (.aload_n 0, 1) := by decide +kernel
theorem d_M_init_117 : decode b_M_init 117 = .ok (.sipush 202, 3) := by decide +kernel
theorem d_M_init_120 : decode b_M_init 120 = .ok (.newarray .int, 2) := by decide +kernel
theorem d_M_init_122 : decode b_M_init 122 = .ok (.putfield 52, 3) := by decide +kernel
theorem d_M_init_125 : decode b_M_init 125 = .ok (.aload_n 0, 1) := by decide +kernel
theorem d_M_init_126 : decode b_M_init 126 = .ok (.sipush 202, 3) := by decide +kernel
theorem d_M_init_129 : decode b_M_init 129 = .ok (.newarray .int, 2) := by decide +kernel
theorem d_M_init_131 : decode b_M_init 131 = .ok (.putfield 55, 3) := by decide +kernel
theorem d_M_init_134 : decode b_M_init 134 = .ok (.aload_n 0, 1) := by decide +kernel
theorem d_M_init_135 : decode b_M_init 135 = .ok (.sipush 202, 3) := by decide +kernel
theorem d_M_init_138 : decode b_M_init 138 = .ok (.newarray .boolean, 2) := by decide +kernel
theorem d_M_init_140 : decode b_M_init 140 = .ok (.putfield 58, 3) := by decide +kernel
theorem d_M_init_143 : decode b_M_init 143 = .ok (.aload_n 0, 1) := by decide +kernel
theorem d_M_init_144 : decode b_M_init 144 = .ok (.bipush 24, 2) := by decide +kernel
theorem d_M_init_146 : decode b_M_init 146 = .ok (.newarray .int, 2) := by decide +kernel
theorem d_M_init_148 : decode b_M_init 148 = .ok (.putfield 62, 3) := by decide +kernel
theorem d_M_init_151 : decode b_M_init 151 = .ok (.aload_n 0, 1) := by decide +kernel
theorem d_M_init_152 : decode b_M_init 152 = .ok (.bipush 24, 2) := by decide +kernel
theorem d_M_init_154 : decode b_M_init 154 = .ok (.newarray .int, 2) := by decide +kernel
theorem d_M_init_156 : decode b_M_init 156 = .ok (.putfield 65, 3) := by decide +kernel
theorem d_M_init_159 : decode b_M_init 159 = .ok (.aload_n 0, 1) := by decide +kernel
theorem d_M_init_160 : decode b_M_init 160 = .ok (.sipush 1024, 3) := by decide +kernel
theorem d_M_init_163 : decode b_M_init 163 = .ok (.newarray .int, 2) := by decide +kernel
theorem d_M_init_165 : decode b_M_init 165 = .ok (.putfield 68, 3) := by decide +kernel
theorem d_M_init_168 : decode b_M_init 168 = .ok (.aload_n 0, 1) := by decide +kernel
theorem d_M_init_169 : decode b_M_init 169 = .ok (.bipush 24, 2) := by decide +kernel
theorem d_M_init_171 : decode b_M_init 171 = .ok (.newarray .int, 2) := by decide +kernel
theorem d_M_init_173 : decode b_M_init 173 = .ok (.putfield 71, 3) := by decide +kernel
theorem d_M_init_176 : decode b_M_init 176 = .ok (.aload_n 0, 1) := by decide +kernel
theorem d_M_init_177 : decode b_M_init 177 = .ok (.bipush 24, 2) := by decide +kernel
theorem d_M_init_179 : decode b_M_init 179 = .ok (.newarray .int, 2) := by decide +kernel
theorem d_M_init_181 : decode b_M_init 181 = .ok (.putfield 74, 3) := by decide +kernel
theorem d_M_init_184 : decode b_M_init 184 = .ok (.aload_n 0, 1) := by decide +kernel
theorem d_M_init_185 : decode b_M_init 185 = .ok (.bipush 24, 2) := by decide +kernel
theorem d_M_init_187 : decode b_M_init 187 = .ok (.newarray .int, 2) := by decide +kernel
theorem d_M_init_189 : decode b_M_init 189 = .ok (.putfield 77, 3) := by decide +kernel
theorem d_M_init_192 : decode b_M_init 192 = .ok (.aload_n 0, 1) := by decide +kernel
theorem d_M_init_193 : decode b_M_init 193 = .ok (.bipush 24, 2) := by decide +kernel
theorem d_M_init_195 : decode b_M_init 195 = .ok (.newarray .int, 2) := by decide +kernel
theorem d_M_init_197 : decode b_M_init 197 = .ok (.putfield 80, 3) := by decide +kernel
theorem d_M_init_200 : decode b_M_init 200 = .ok (.aload_n 0, 1) := by decide +kernel
theorem d_M_init_201 : decode b_M_init 201 = .ok (.sipush 4100, 3) := by decide +kernel
theorem d_M_init_204 : decode b_M_init 204 = .ok (.newarray .int, 2) := by decide +kernel
theorem d_M_init_206 : decode b_M_init 206 = .ok (.putfield 83, 3) := by decide +kernel
theorem d_M_init_209 : decode b_M_init 209 = .ok (.aload_n 0, 1) := by decide +kernel
theorem d_M_init_210 : decode b_M_init 210 = .ok (.sipush 4100, 3) := by decide +kernel
theorem d_M_init_213 : decode b_M_init 213 = .ok (.newarray .int, 2) := by decide +kernel
theorem d_M_init_215 : decode b_M_init 215 = .ok (.putfield 86, 3) := by decide +kernel
theorem d_M_init_218 : decode b_M_init 218 = .ok (.aload_n 0, 1) := by decide +kernel
theorem d_M_init_219 : decode b_M_init 219 = .ok (.sipush 4100, 3) := by decide +kernel
theorem d_M_init_222 : decode b_M_init 222 = .ok (.newarray .int, 2) := by decide +kernel
theorem d_M_init_224 : decode b_M_init 224 = .ok (.putfield 89, 3) := by decide +kernel
theorem d_M_init_227 : decode b_M_init 227 = .ok (.aload_n 0, 1) := by decide +kernel
theorem d_M_init_228 : decode b_M_init 228 = .ok (.sipush 8192, 3) := by decide +kernel
theorem d_M_init_231 : decode b_M_init 231 = .ok (.newarray .int, 2) := by decide +kernel
theorem d_M_init_233 : decode b_M_init 233 = .ok (.putfield 92, 3) := by decide +kernel
theorem d_M_init_236 : decode b_M_init 236 = .ok (.aload_n 0, 1) := by decide +kernel
theorem d_M_init_237 : decode b_M_init 237 = .ok (.sipush 8192, 3) := by decide +kernel
theorem d_M_init_240 : decode b_M_init 240 = .ok (.newarray .int, 2) := by decide +kernel
theorem d_M_init_242 : decode b_M_init 242 = .ok (.putfield 95, 3) := by decide +kernel
theorem d_M_init_245 : decode b_M_init 245 = .ok (.aload_n 0, 1) := by decide +kernel
theorem d_M_init_246 : decode b_M_init 246 = .ok (.bipush 24, 2) := by decide +kernel
theorem d_M_init_248 : decode b_M_init 248 = .ok (.newarray .int, 2) := by decide +kernel
theorem d_M_init_250 : decode b_M_init 250 = .ok (.putfield 98, 3) := by decide +kernel
theorem d_M_init_253 : decode b_M_init 253 = .ok (.aload_n 0, 1) := by decide +kernel
theorem d_M_init_254 : decode b_M_init 254 = .ok (.bipush 24, 2) := by decide +kernel
theorem d_M_init_256 : decode b_M_init 256 = .ok (.newarray .int, 2) := by decide +kernel
theorem d_M_init_258 : decode b_M_init 258 = .ok (.putfield 101, 3) := by decide +kernel
theorem d_M_init_261 : decode b_M_init 261 = .ok (.aload_n 0, 1) := by decide +kernel
theorem d_M_init_262 : decode b_M_init 262 = .ok (.bipush 24, 2) := by decide +kernel
theorem d_M_init_264 : decode b_M_init 264 = .ok (.newarray .long, 2) := by decide +kernel
theorem d_M_init_266 : decode b_M_init 266 = .ok (.putfield 104, 3) := by decide +kernel
theorem d_M_init_269 : decode b_M_init 269 = .ok (.aload_n 0, 1) := by decide +kernel
theorem d_M_init_270 : decode b_M_init 270 = .ok (.sipush 16384, 3) := by decide +kernel
theorem d_M_init_273 : decode b_M_init 273 = .ok (.newarray .int, 2) := by decide +kernel
theorem d_M_init_275 : decode b_M_init 275 = .ok (.putfield 108, 3) := by decide +kernel
theorem d_M_init_278 : decode b_M_init 278 = .ok (.aload_n 0, 1) := by decide +kernel
theorem d_M_init_279 : decode b_M_init 279 = .ok (.bipush 24, 2) := by decide +kernel
theorem d_M_init_281 : decode b_M_init 281 = .ok (.newarray .int, 2) := by decide +kernel
theorem d_M_init_283 : decode b_M_init 283 = .ok (.putfield 111, 3) := by decide +kernel
theorem d_M_init_286 : decode b_M_init 286 = .ok (.aload_n 0, 1) := by decide +kernel
theorem d_M_init_287 : decode b_M_init 287 = .ok (.bipush 24, 2) := by decide +kernel
theorem d_M_init_289 : decode b_M_init 289 = .ok (.newarray .long, 2) := by decide +kernel
theorem d_M_init_291 : decode b_M_init 291 = .ok (.putfield 114, 3) := by decide +kernel
theorem d_M_init_294 : decode b_M_init 294 = .ok (.aload_n 0, 1) := by decide +kernel
theorem d_M_init_295 : decode b_M_init 295 = .ok (.sipush 384, 3) := by decide +kernel
theorem d_M_init_298 : decode b_M_init 298 = .ok (.newarray .int, 2) := by decide +kernel
theorem d_M_init_300 : decode b_M_init 300 = .ok (.putfield 117, 3) := by decide +kernel
theorem d_M_init_303 : decode b_M_init 303 = .ok (.aload_n 0, 1) := by decide +kernel
theorem d_M_init_304 : decode b_M_init 304 = .ok (.ldc 120, 2) := by decide +kernel
theorem d_M_init_306 : decode b_M_init 306 = .ok (.newarray .byte, 2) := by decide +kernel
theorem d_M_init_308 : decode b_M_init 308 = .ok (.putfield 121, 3) := by decide +kernel
theorem d_M_init_311 : decode b_M_init 311 = .ok (.aload_n 0, 1) := by decide +kernel
theorem d_M_init_312 : decode b_M_init 312 = .ok (.sipush 4096, 3) := by decide +kernel
theorem d_M_init_315 : decode b_M_init 315 = .ok (.newarray .int, 2) := by decide +kernel
theorem d_M_init_317 : decode b_M_init 317 = .ok (.putfield 124, 3) := by decide +kernel
theorem d_M_init_320 : decode b_M_init 320 = .ok (.aload_n 0, 1) := by decide +kernel
theorem d_M_init_321 : decode b_M_init 321 = .ok (.sipush 4096, 3) := by decide +kernel
theorem d_M_init_324 : decode b_M_init 324 = .ok (.newarray .boolean, 2) := by decide +kernel
theorem d_M_init_326 : decode b_M_init 326 = .ok (.putfield 127, 3) := by decide +kernel
theorem d_M_init_329 : decode b_M_init 329 = .ok (.aload_n 0, 1) := by decide +kernel
theorem d_M_init_330 : decode b_M_init 330 = .ok (.sipush 4096, 3) := by decide +kernel
theorem d_M_init_333 : decode b_M_init 333 = .ok (.newarray .long, 2) := by decide +kernel
theorem d_M_init_335 : decode b_M_init 335 = .ok (.putfield 130, 3) := by decide +kernel
theorem d_M_init_338 : decode b_M_init 338 = .ok (.aload_n 0, 1) := by decide +kernel
theorem d_M_init_339 : decode b_M_init 339 = .ok (.sipush 1000, 3) := by decide +kernel
theorem d_M_init_342 : decode b_M_init 342 = .ok (.newarray .long, 2) := by decide +kernel
theorem d_M_init_344 : decode b_M_init 344 = .ok (.putfield 133, 3) := by decide +kernel
theorem d_M_init_347 : decode b_M_init 347 = .ok (.aload_n 0, 1) := by decide +kernel
theorem d_M_init_348 : decode b_M_init 348 = .ok (.sipush 1000, 3) := by decide +kernel
theorem d_M_init_351 : decode b_M_init 351 = .ok (.newarray .long, 2) := by decide +kernel
theorem d_M_init_353 : decode b_M_init 353 = .ok (.putfield 136, 3) := by decide +kernel
theorem d_M_init_356 : decode b_M_init 356 = .ok (.aload_n 0, 1) := by decide +kernel
theorem d_M_init_357 : decode b_M_init 357 = .ok (.sipush 200, 3) := by decide +kernel
theorem d_M_init_360 : decode b_M_init 360 = .ok (.newarray .int, 2) := by decide +kernel
theorem d_M_init_362 : decode b_M_init 362 = .ok (.putfield 139, 3) := by decide +kernel
theorem d_M_init_365 : decode b_M_init 365 = .ok (.aload_n 0, 1) := by decide +kernel
theorem d_M_init_366 : decode b_M_init 366 = .ok (.sipush 200, 3) := by decide +kernel
theorem d_M_init_369 : decode b_M_init 369 = .ok (.newarray .int, 2) := by decide +kernel
theorem d_M_init_371 : decode b_M_init 371 = .ok (.putfield 142, 3) := by decide +kernel
theorem d_M_init_374 : decode b_M_init 374 = .ok (.aload_n 0, 1) := by decide +kernel
theorem d_M_init_375 : decode b_M_init 375 = .ok (.sipush 200, 3) := by decide +kernel
theorem d_M_init_378 : decode b_M_init 378 = .ok (.newarray .int, 2) := by decide +kernel
theorem d_M_init_380 : decode b_M_init 380 = .ok (.putfield 145, 3) := by decide +kernel
theorem d_M_init_383 : decode b_M_init 383 = .ok (.aload_n 0, 1) := by decide +kernel
theorem d_M_init_384 : decode b_M_init 384 = .ok (.sipush 200, 3) := by decide +kernel
theorem d_M_init_387 : decode b_M_init 387 = .ok (.newarray .int, 2) := by decide +kernel
theorem d_M_init_389 : decode b_M_init 389 = .ok (.putfield 148, 3) := by decide +kernel
theorem d_M_init_392 : decode b_M_init 392 = .ok (.aload_n 0, 1) := by decide +kernel
theorem d_M_init_393 : decode b_M_init 393 = .ok (.sipush 200, 3) := by decide +kernel
theorem d_M_init_396 : decode b_M_init 396 = .ok (.newarray .int, 2) := by decide +kernel
theorem d_M_init_398 : decode b_M_init 398 = .ok (.putfield 151, 3) := by decide +kernel
theorem d_M_init_401 : decode b_M_init 401 = .ok (.aload_n 0, 1) := by decide +kernel
theorem d_M_init_402 : decode b_M_init 402 = .ok (.sipush 18384, 3) := by decide +kernel
theorem d_M_init_405 : decode b_M_init 405 = .ok (.newarray .long, 2) := by decide +kernel
theorem d_M_init_407 : decode b_M_init 407 = .ok (.putfield 154, 3) := by decide +kernel
theorem d_M_init_410 : decode b_M_init 410 = .ok (.aload_n 0, 1) := by decide +kernel
theorem d_M_init_411 : decode b_M_init 411 = .ok (.sipush 18384, 3) := by decide +kernel
theorem d_M_init_414 : decode b_M_init 414 = .ok (.newarray .byte, 2) := by decide +kernel
theorem d_M_init_416 : decode b_M_init 416 = .ok (.putfield 157, 3) := by decide +kernel
theorem d_M_init_419 : decode b_M_init 419 = .ok (.aload_n 0, 1) := by decide +kernel
theorem d_M_init_420 : decode b_M_init 420 = .ok (.ldc 160, 2) := by decide +kernel
theorem d_M_init_422 : decode b_M_init 422 = .ok (.newarray .int, 2) := by decide +kernel
theorem d_M_init_424 : decode b_M_init 424 = .ok (.putfield 161, 3) := by decide +kernel
theorem d_M_init_427 : decode b_M_init 427 = .ok (.aload_n 0, 1) := by decide +kernel
theorem d_M_init_428 : decode b_M_init 428 = .ok (.ldc 160, 2) := by decide +kernel
theorem d_M_init_430 : decode b_M_init 430 = .ok (.newarray .int, 2) := by decide +kernel
theorem d_M_init_432 : decode b_M_init 432 = .ok (.putfield 164, 3) := by decide +kernel
theorem d_M_init_435 : decode b_M_init 435 = .ok (.aload_n 0, 1) := by decide +kernel
theorem d_M_init_436 : decode b_M_init 436 = .ok (.ldc 160, 2) := by decide +kernel
theorem d_M_init_438 : decode b_M_init 438 = .ok (.newarray .int, 2) := by decide +kernel
theorem d_M_init_440 : decode b_M_init 440 = .ok (.putfield 167, 3) := by decide +kernel
theorem d_M_init_443 : decode b_M_init 443 = .ok (.aload_n 0, 1) := by decide +kernel
theorem d_M_init_444 : decode b_M_init 444 = .ok (.ldc 160, 2) := by decide +kernel
theorem d_M_init_446 : decode b_M_init 446 = .ok (.newarray .int, 2) := by decide +kernel
theorem d_M_init_448 : decode b_M_init 448 = .ok (.putfield 170, 3) := by decide +kernel
theorem d_M_init_451 : decode b_M_init 451 = .ok (.aload_n 0, 1) := by decide +kernel
theorem d_M_init_452 : decode b_M_init 452 = .ok (.iconst 4, 1) := by decide +kernel
theorem d_M_init_453 : decode b_M_init 453 = .ok (.newarray .int, 2) := by decide +kernel
theorem d_M_init_455 : decode b_M_init 455 = .ok (.dup, 1) := by decide +kernel
theorem d_M_init_456 : decode b_M_init 456 = .ok (.iconst 0, 1) := by decide +kernel
theorem d_M_init_457 : decode b_M_init 457 = .ok (.iconst 0, 1) := by decide +kernel
theorem d_M_init_458 : decode b_M_init 458 = .ok (.iastore, 1) := by decide +kernel
theorem d_M_init_459 : decode b_M_init 459 = .ok (.dup, 1) := by decide +kernel
theorem d_M_init_460 : decode b_M_init 460 = .ok (.iconst 1, 1) := by decide +kernel
theorem d_M_init_461 : decode b_M_init 461 = .ok (.iconst (-1), 1) := by decide +kernel
theorem d_M_init_462 : decode b_M_init 462 = .ok (.iastore, 1) := by decide +kernel
theorem d_M_init_463 : decode b_M_init 463 = .ok (.dup, 1) := by decide +kernel
theorem d_M_init_464 : decode b_M_init 464 = .ok (.iconst 2, 1) := by decide +kernel
theorem d_M_init_465 : decode b_M_init 465 = .ok (.iconst (-1), 1) := by decide +kernel
theorem d_M_init_466 : decode b_M_init 466 = .ok (.iastore, 1) := by decide +kernel
theorem d_M_init_467 : decode b_M_init 467 = .ok (.dup, 1) := by decide +kernel
theorem d_M_init_468 : decode b_M_init 468 = .ok (.iconst 3, 1) := by decide +kernel
theorem d_M_init_469 : decode b_M_init 469 = .ok (.iconst (-1), 1) := by decide +kernel
theorem d_M_init_470 : decode b_M_init 470 = .ok (.iastore, 1) := by decide +kernel
theorem d_M_init_471 : decode b_M_init 471 = .ok (.putfield 173, 3) := by decide +kernel
theorem d_M_init_474 : decode b_M_init 474 = .ok (.aload_n 0, 1) := by decide +kernel
theorem d_M_init_475 : decode b_M_init 475 = .ok (.sipush 4096, 3) := by decide +kernel
theorem d_M_init_478 : decode b_M_init 478 = .ok (.newarray .long, 2) := by decide +kernel
theorem d_M_init_480 : decode b_M_init 480 = .ok (.putfield 176, 3) := by decide +kernel
theorem d_M_init_483 : decode b_M_init 483 = .ok (.aload_n 0, 1) := by decide +kernel
theorem d_M_init_484 : decode b_M_init 484 = .ok (.iconst 2, 1) := by decide +kernel
theorem d_M_init_485 : decode b_M_init 485 = .ok (.newarray .int, 2) := by decide +kernel
theorem d_M_init_487 : decode b_M_init 487 = .ok (.putfield 179, 3) := by decide +kernel
theorem d_M_init_490 : decode b_M_init 490 = .ok (.aload_n 0, 1) := by decide +kernel
theorem d_M_init_491 : decode b_M_init 491 = .ok (.new 182, 3) := by decide +kernel
theorem d_M_init_494 : decode b_M_init 494 = .ok (.dup, 1) := by decide +kernel
theorem d_M_init_495 : decode b_M_init 495 = .ok (.invokespecial 184, 3) := by decide +kernel
theorem d_M_init_498 : decode b_M_init 498 = .ok (.putfield 185, 3) := by decide +kernel
theorem d_M_init_501 : decode b_M_init 501 = .ok (.return_, 1) := by decide +kernel
theorem d_M_instantiate_0 : decode b_M_instantiate 0 = .ok (.aload_n 0, 1) := by decide +kernel
theorem d_M_instantiate_1 : decode b_M_instantiate 1 = .ok (.aload_n 0, 1) := by decide +kernel
theorem d_M_instantiate_2 : decode b_M_instantiate 2 = .ok (.iload_n 1, 1) := by decide +kernel
theorem d_M_instantiate_3 : decode b_M_instantiate 3 = .ok (.invokevirtual 473, 3) := by decide +kernel
theorem d_M_instantiate_6 : decode b_M_instantiate 6 = .ok (.ifCond .ne 7, 3) := by decide +kernel
theorem d_M_instantiate_9 : decode b_M_instantiate 9 = .ok (.iconst 1, 1) := by decide +kernel
theorem d_M_instantiate_10 : decode b_M_instantiate 10 = .ok (.goto 15, 3) := by decide +kernel
theorem d_M_instantiate_25 : decode b_M_instantiate 25 = .ok (.putfield 189, 3) := by decide +kernel
theorem d_M_instantiate_28 : decode b_M_instantiate 28 = .ok (.aload_n 0, 1) := by decide +kernel
theorem d_M_instantiate_29 : decode b_M_instantiate 29 = .ok (.getfield 189, 3) := by decide +kernel
theorem d_M_instantiate_32 : decode b_M_instantiate 32 = .ok (.ifCond .le 5, 3) := by decide +kernel
theorem d_M_instantiate_35 : decode b_M_instantiate 35 = .ok (.iconst 0, 1) := by decide +kernel
theorem d_M_instantiate_36 : decode b_M_instantiate 36 = .ok (.ireturn, 1) := by decide +kernel
theorem d_M_invoke_0 : decode b_M_invoke 0 = .ok (.aload_n 0, 1) := by decide +kernel
theorem d_M_invoke_1 : decode b_M_invoke 1 = .ok (.aload_n 0, 1) := by decide +kernel
theorem d_M_invoke_2 : decode b_M_invoke 2 = .ok (.iload_n 1, 1) := by decide +kernel
theorem d_M_invoke_3 : decode b_M_invoke 3 = .ok (.iload_n 2, 1) := by decide +kernel
theorem d_M_invoke_4 : decode b_M_invoke 4 = .ok (.invokevirtual 595, 3) := by decide +kernel
theorem d_M_invoke_7 : decode b_M_invoke 7 = .ok (.ifCond .eq 7, 3) := by decide +kernel
theorem d_M_invoke_14 : decode b_M_invoke 14 = .ok (.iconst 1, 1) := by decide +kernel
theorem d_M_invoke_15 : decode b_M_invoke 15 = .ok (.putfield 189, 3) := by decide +kernel
theorem d_M_invoke_18 : decode b_M_invoke 18 = .ok (.aload_n 0, 1) := by decide +kernel
theorem d_M_invoke_19 : decode b_M_invoke 19 = .ok (.getfield 189, 3) := by decide +kernel
theorem d_M_invoke_22 : decode b_M_invoke 22 = .ok (.ifCond .le 4, 3) := by decide +kernel
theorem d_M_invoke_25 : decode b_M_invoke 25 = .ok (.return_, 1) := by decide +kernel
theorem d_M_isByte_0 : decode b_M_isByte 0 = .ok (.aload_n 0, 1) := by decide +kernel
theorem d_M_isByte_1 : decode b_M_isByte 1 = .ok (.iload_n 1, 1) := by decide +kernel
theorem d_M_isByte_2 : decode b_M_isByte 2 = .ok (.invokevirtual 592, 3) := by decide +kernel
theorem d_M_isByte_5 : decode b_M_isByte 5 = .ok (.ifCond .ne 5, 3) := by decide +kernel
theorem d_M_isByte_8 : decode b_M_isByte 8 = .ok (.iconst 0, 1) := by decide +kernel
theorem d_M_isByte_9 : decode b_M_isByte 9 = .ok (.ireturn, 1) := by decide +kernel
theorem d_M_isExport_0 : decode b_M_isExport 0 = .ok (.aload_n 0, 1) := by decide +kernel
theorem d_M_isExport_1 : decode b_M_isExport 1 = .ok (.iload_n 1, 1) := by decide +kernel
theorem d_M_isExport_2 : decode b_M_isExport 2 = .ok (.invokevirtual 592, 3) := by decide +kernel
theorem d_M_isExport_5 : decode b_M_isExport 5 = .ok (.ifCond .eq 27, 3) := by decide +kernel
theorem d_M_isExport_32 : decode b_M_isExport 32 = .ok (.iconst 0, 1) := by decide +kernel
theorem d_M_isExport_33 : decode b_M_isExport 33 = .ok (.ireturn, 1) := by decide +kernel
theorem d_M_isInstance_0 : decode b_M_isInstance 0 = .ok (.iload_n 1, 1) := by decide +kernel
theorem d_M_isInstance_1 : decode b_M_isInstance 1 = .ok (.ifCond .lt 15, 3) := by decide +kernel
theorem d_M_isInstance_4 : decode b_M_isInstance 4 = .ok (.iload_n 1, 1) := by decide +kernel
theorem d_M_isInstance_5 : decode b_M_isInstance 5 = .ok (.aload_n 0, 1) := by decide +kernel
theorem d_M_isInstance_6 : decode b_M_isInstance 6 = .ok (.getfield 476, 3) := by decide +kernel
theorem d_M_isInstance_9 : decode b_M_isInstance 9 = .ok (.if_icmp .ge 7, 3) := by decide +kernel
theorem d_M_isInstance_16 : decode b_M_isInstance 16 = .ok (.iconst 0, 1) := by decide +kernel
theorem d_M_isInstance_17 : decode b_M_isInstance 17 = .ok (.ireturn, 1) := by decide +kernel
theorem d_M_isModule_0 : decode b_M_isModule 0 = .ok (.iload_n 1, 1) := by decide +kernel
theorem d_M_isModule_1 : decode b_M_isModule 1 = .ok (.ifCond .lt 15, 3) := by decide +kernel
theorem d_M_isModule_4 : decode b_M_isModule 4 = .ok (.iload_n 1, 1) := by decide +kernel
theorem d_M_isModule_5 : decode b_M_isModule 5 = .ok (.aload_n 0, 1) := by decide +kernel
theorem d_M_isModule_6 : decode b_M_isModule 6 = .ok (.getfield 275, 3) := by decide +kernel
