theorem d_Arrays_copyOf_0 : decode b_Arrays_copyOf 0 = .ok (.iload_n 1, 1) := by decide +kernel
theorem d_Arrays_copyOf_1 : decode b_Arrays_copyOf 1 = .ok (.aload_n 0, 1) := by decide +kernel
theorem d_Arrays_copyOf_2 : decode b_Arrays_copyOf 2 = .ok (.arraylength, 1) := by decide +kernel
theorem d_Arrays_copyOf_3 : decode b_Arrays_copyOf 3 = .ok (.if_icmp .ne 11, 3) := by decide +kernel
theorem d_Arrays_copyOf_14 : decode b_Arrays_copyOf 14 = .ok (.iload_n 1, 1) := by decide +kernel
theorem d_Arrays_copyOf_15 : decode b_Arrays_copyOf 15 = .ok (.newarray .byte, 2) := by decide +kernel
theorem d_Arrays_copyOf_17 : decode b_Arrays_copyOf 17 = .ok (.astore_n 2, 1) := by decide +kernel
theorem d_Arrays_copyOf_18 : decode b_Arrays_copyOf 18 = .ok (.aload_n 0, 1) := by decide +kernel
theorem d_Arrays_copyOf_19 : decode b_Arrays_copyOf 19 = .ok (.iconst 0, 1) := by decide +kernel
theorem d_Arrays_copyOf_20 : decode b_Arrays_copyOf 20 = .ok (.aload_n 2, 1) := by decide +kernel
theorem d_Arrays_copyOf_21 : decode b_Arrays_copyOf 21 = .ok (.iconst 0, 1) := by decide +kernel
theorem d_Arrays_copyOf_22 : decode b_Arrays_copyOf 22 = .ok (.aload_n 0, 1) := by decide +kernel
theorem d_Arrays_copyOf_23 : decode b_Arrays_copyOf 23 = .ok (.arraylength, 1) := by decide +kernel
theorem d_Arrays_copyOf_24 : decode b_Arrays_copyOf 24 = .ok (.iload_n 1, 1) := by decide +kernel
theorem d_Arrays_copyOf_25 : decode b_Arrays_copyOf 25 = .ok (.invokestatic 304, 3) := by decide +kernel
theorem d_Arrays_copyOf_28 : decode b_Arrays_copyOf 28 = .ok (.invokestatic 150, 3) := by decide +kernel
theorem d_Arrays_copyOf_31 : decode b_Arrays_copyOf 31 = .ok (.aload_n 2, 1) := by decide +kernel
theorem d_Arrays_copyOf_32 : decode b_Arrays_copyOf 32 = .ok (.areturn, 1) := by decide +kernel
theorem d_Checker_init_0 : decode b_Checker_init 0 = .ok (.aload_n 0, 1) := by decide +kernel
theorem d_Checker_init_1 : decode b_Checker_init 1 = .ok (.invokespecial 3, 3) := by decide +kernel
theorem d_Checker_init_4 : decode b_Checker_init 4 = .ok (.aload_n 0, 1) := by decide +kernel
theorem d_Checker_init_5 : decode b_Checker_init 5 = .ok (.iconst 1, 1) := by decide +kernel
theorem d_Checker_init_6 : decode b_Checker_init 6 = .ok (.newarray .byte, 2) := by decide +kernel
theorem d_Checker_init_8 : decode b_Checker_init 8 = .ok (.putfield 9, 3) := by decide +kernel
theorem d_Checker_init_11 : decode b_Checker_init 11 = .ok (.aload_n 0, 1) := by decide +kernel
theorem d_Checker_init_12 : decode b_Checker_init 12 = .ok (.sipush 1000, 3) := by decide +kernel
theorem d_Checker_init_15 : decode b_Checker_init 15 = .ok (.newarray .byte, 2) := by decide +kernel
theorem d_Checker_init_17 : decode b_Checker_init 17 = .ok (.putfield 15, 3) := by decide +kernel
theorem d_Checker_init_20 : decode b_Checker_init 20 = .ok (.aload_n 0, 1) := by decide +kernel
theorem d_Checker_init_21 : decode b_Checker_init 21 = .ok (.sipush 201, 3) := by decide +kernel
theorem d_Checker_init_24 : decode b_Checker_init 24 = .ok (.newarray .int, 2) := by decide +kernel
theorem d_Checker_init_26 : decode b_Checker_init 26 = .ok (.putfield 18, 3) := by decide +kernel
theorem d_Checker_init_29 : decode b_Checker_init 29 = .ok (.aload_n 0, 1) := by decide +kernel
theorem d_Checker_init_30 : decode b_Checker_init 30 = .ok (.sipush 201, 3) := by decide +kernel
theorem d_Checker_init_33 : decode b_Checker_init 33 = .ok (.newarray .int, 2) := by decide +kernel
theorem d_Checker_init_35 : decode b_Checker_init 35 = .ok (.putfield 22, 3) := by decide +kernel
theorem d_Checker_init_38 : decode b_Checker_init 38 = .ok (.aload_n 0, 1) := by decide +kernel
theorem d_Checker_init_39 : decode b_Checker_init 39 = .ok (.sipush 201, 3) := by decide +kernel
theorem d_Checker_init_42 : decode b_Checker_init 42 = .ok (.newarray .int, 2) := by decide +kernel
theorem d_Checker_init_44 : decode b_Checker_init 44 = .ok (.putfield 25, 3) := by decide +kernel
theorem d_Checker_init_47 : decode b_Checker_init 47 = .ok (.aload_n 0, 1) := by decide +kernel
theorem d_Checker_init_48 : decode b_Checker_init 48 = .ok (.sipush 201, 3) := by decide +kernel
theorem d_Checker_init_51 : decode b_Checker_init 51 = .ok (.newarray .int, 2) := by decide +kernel
theorem d_Checker_init_53 : decode b_Checker_init 53 = .ok (.putfield 28, 3) := by decide +kernel
theorem d_Checker_init_56 : decode b_Checker_init 56 = .ok (.aload_n 0, 1) := by decide +kernel
theorem d_Checker_init_57 : decode b_Checker_init 57 = .ok (.sipush 201, 3) := by decide +kernel
theorem d_Checker_init_60 : decode b_Checker_init 60 = .ok (.newarray .int, 2) := by decide +kernel
theorem d_Checker_init_62 : decode b_Checker_init 62 = .ok (.putfield 31, 3) := by decide +kernel
theorem d_Checker_init_65 : decode b_Checker_init 65 = .ok (.aload_n 0, 1) := by decide +kernel
theorem d_Checker_init_66 : decode b_Checker_init 66 = .ok (.sipush 201, 3) := by decide +kernel
theorem d_Checker_init_69 : decode b_Checker_init 69 = .ok (.newarray .boolean, 2) := by decide +kernel
theorem d_Checker_init_71 : decode b_Checker_init 71 = .ok (.putfield 34, 3) := by decide +kernel
theorem d_Checker_init_74 : decode b_Checker_init 74 = .ok (.return_, 1) := by decide +kernel
theorem d_Exact_init_0 : decode b_Exact_init 0 = .ok (.aload_n 0, 1) := by decide +kernel
theorem d_Exact_init_1 : decode b_Exact_init 1 = .ok (.invokespecial 3, 3) := by decide +kernel
theorem d_Exact_init_4 : decode b_Exact_init 4 = .ok (.aload_n 0, 1) := by decide +kernel
theorem d_Exact_init_5 : decode b_Exact_init 5 = .ok (.sipush 4400, 3) := by decide +kernel
theorem d_Exact_init_8 : decode b_Exact_init 8 = .ok (.newarray .byte, 2) := by decide +kernel
theorem d_Exact_init_10 : decode b_Exact_init 10 = .ok (.putfield 9, 3) := by decide +kernel
theorem d_Exact_init_13 : decode b_Exact_init 13 = .ok (.aload_n 0, 1) := by decide +kernel
theorem d_Exact_init_14 : decode b_Exact_init 14 = .ok (.iconst 1, 1) := by decide +kernel
theorem d_Exact_init_15 : decode b_Exact_init 15 = .ok (.putfield 15, 3) := by decide +kernel
theorem d_Exact_init_18 : decode b_Exact_init 18 = .ok (.aload_n 0, 1) := by decide +kernel
theorem d_Exact_init_19 : decode b_Exact_init 19 = .ok (.iconst 0, 1) := by decide +kernel
theorem d_Exact_init_20 : decode b_Exact_init 20 = .ok (.putfield 19, 3) := by decide +kernel
theorem d_Exact_init_23 : decode b_Exact_init 23 = .ok (.return_, 1) := by decide +kernel
theorem d_Format_init_0 : decode b_Format_init 0 = .ok (.aload_n 0, 1) := by decide +kernel
theorem d_Format_init_1 : decode b_Format_init 1 = .ok (.invokespecial 3, 3) := by decide +kernel
theorem d_Format_init_4 : decode b_Format_init 4 = .ok (.aload_n 0, 1) := by decide +kernel
theorem d_Format_init_5 : decode b_Format_init 5 = .ok (.iload_n 1, 1) := by decide +kernel
theorem d_Format_init_6 : decode b_Format_init 6 = .ok (.putfield 9, 3) := by decide +kernel
theorem d_Format_init_9 : decode b_Format_init 9 = .ok (.aload_n 0, 1) := by decide +kernel
theorem d_Format_init_10 : decode b_Format_init 10 = .ok (.iload_n 2, 1) := by decide +kernel
theorem d_Format_init_11 : decode b_Format_init 11 = .ok (.putfield 15, 3) := by decide +kernel
theorem d_Format_init_14 : decode b_Format_init 14 = .ok (.aload_n 0, 1) := by decide +kernel
theorem d_Format_init_15 : decode b_Format_init 15 = .ok (.lload_n 3, 1) := by decide +kernel
theorem d_Format_init_16 : decode b_Format_init 16 = .ok (.putfield 18, 3) := by decide +kernel
theorem d_Format_init_19 : decode b_Format_init 19 = .ok (.aload_n 0, 1) := by decide +kernel
theorem d_Format_init_20 : decode b_Format_init 20 = .ok (.ldc2_w 22, 3) := by decide +kernel
theorem d_Format_init_23 : decode b_Format_init 23 = .ok (.iload_n 2, 1) := by decide +kernel
theorem d_Format_init_24 : decode b_Format_init 24 = .ok (.i2l, 1) := by decide +kernel
theorem d_Format_init_25 : decode b_Format_init 25 = .ok (.lmul, 1) := by decide +kernel
theorem d_Format_init_26 : decode b_Format_init 26 = .ok (.lconst 1, 1) := by decide +kernel
theorem d_Format_init_27 : decode b_Format_init 27 = .ok (.ladd, 1) := by decide +kernel
theorem d_Format_init_28 : decode b_Format_init 28 = .ok (.iload_n 1, 1) := by decide +kernel
theorem d_Format_init_29 : decode b_Format_init 29 = .ok (.iconst 1, 1) := by decide +kernel
theorem d_Format_init_30 : decode b_Format_init 30 = .ok (.isub, 1) := by decide +kernel
theorem d_Format_init_31 : decode b_Format_init 31 = .ok (.lshl, 1) := by decide +kernel
theorem d_Format_init_32 : decode b_Format_init 32 = .ok (.putfield 24, 3) := by decide +kernel
theorem d_Format_init_35 : decode b_Format_init 35 = .ok (.aload_n 0, 1) := by decide +kernel
theorem d_Format_init_36 : decode b_Format_init 36 = .ok (.aload_n 0, 1) := by decide +kernel
theorem d_Format_init_37 : decode b_Format_init 37 = .ok (.getfield 24, 3) := by decide +kernel
theorem d_Format_init_40 : decode b_Format_init 40 = .ok (.lconst 1, 1) := by decide +kernel
theorem d_Format_init_41 : decode b_Format_init 41 = .ok (.iload_n 1, 1) := by decide +kernel
theorem d_Format_init_42 : decode b_Format_init 42 = .ok (.iconst 2, 1) := by decide +kernel
theorem d_Format_init_43 : decode b_Format_init 43 = .ok (.isub, 1) := by decide +kernel
theorem d_Format_init_44 : decode b_Format_init 44 = .ok (.lshl, 1) := by decide +kernel
theorem d_Format_init_45 : decode b_Format_init 45 = .ok (.lor, 1) := by decide +kernel
theorem d_Format_init_46 : decode b_Format_init 46 = .ok (.putfield 27, 3) := by decide +kernel
theorem d_Format_init_49 : decode b_Format_init 49 = .ok (.return_, 1) := by decide +kernel
theorem d_H_calls_0 : decode b_H_calls 0 = .ok (.aload_n 0, 1) := by decide +kernel
theorem d_H_calls_1 : decode b_H_calls 1 = .ok (.getfield 45, 3) := by decide +kernel
theorem d_H_calls_4 : decode b_H_calls 4 = .ok (.getfield 270, 3) := by decide +kernel
theorem d_H_calls_7 : decode b_H_calls 7 = .ok (.ireturn, 1) := by decide +kernel
theorem d_H_clear_0 : decode b_H_clear 0 = .ok (.aload_n 0, 1) := by decide +kernel
theorem d_H_clear_1 : decode b_H_clear 1 = .ok (.getfield 36, 3) := by decide +kernel
theorem d_H_clear_4 : decode b_H_clear 4 = .ok (.getfield 338, 3) := by decide +kernel
theorem d_H_clear_7 : decode b_H_clear 7 = .ok (.getfield 242, 3) := by decide +kernel
theorem d_H_clear_10 : decode b_H_clear 10 = .ok (.istore_n 1, 1) := by decide +kernel
theorem d_H_clear_11 : decode b_H_clear 11 = .ok (.aload_n 0, 1) := by decide +kernel
theorem d_H_clear_12 : decode b_H_clear 12 = .ok (.getfield 36, 3) := by decide +kernel
theorem d_H_clear_15 : decode b_H_clear 15 = .ok (.getfield 338, 3) := by decide +kernel
theorem d_H_clear_18 : decode b_H_clear 18 = .ok (.iconst 0, 1) := by decide +kernel
theorem d_H_clear_19 : decode b_H_clear 19 = .ok (.putfield 242, 3) := by decide +kernel
theorem d_H_clear_22 : decode b_H_clear 22 = .ok (.iload_n 1, 1) := by decide +kernel
theorem d_H_clear_23 : decode b_H_clear 23 = .ok (.ireturn, 1) := by decide +kernel
theorem d_H_element_0 : decode b_H_element 0 = .ok (.aload_n 0, 1) := by decide +kernel
theorem d_H_element_1 : decode b_H_element 1 = .ok (.iload_n 1, 1) := by decide +kernel
theorem d_H_element_2 : decode b_H_element 2 = .ok (.invokevirtual 200, 3) := by decide +kernel
theorem d_H_end_0 : decode b_H_end 0 = .ok (.iload_n 1, 1) := by decide +kernel
theorem d_H_end_1 : decode b_H_end 1 = .ok (.ifCond .lt 11, 3) := by decide +kernel
theorem d_H_end_4 : decode b_H_end 4 = .ok (.iload_n 1, 1) := by decide +kernel
theorem d_H_end_5 : decode b_H_end 5 = .ok (.aload_n 0, 1) := by decide +kernel
theorem d_H_end_6 : decode b_H_end 6 = .ok (.getfield 58, 3) := by decide +kernel
theorem d_H_end_9 : decode b_H_end 9 = .ok (.if_icmp .le 13, 3) := by decide +kernel
theorem d_H_end_12 : decode b_H_end 12 = .ok (.new 86, 3) := by decide +kernel
theorem d_H_end_15 : decode b_H_end 15 = .ok (.dup, 1) := by decide +kernel
theorem d_H_end_16 : decode b_H_end 16 = .ok (.ldc 88, 2) := by decide +kernel
theorem d_H_end_18 : decode b_H_end 18 = .ok (.invokespecial 90, 3) := by decide +kernel
theorem d_H_end_21 : decode b_H_end 21 = .ok (.athrow, 1) := by decide +kernel
theorem d_H_end_22 : decode b_H_end 22 = .ok (.aload_n 0, 1) := by decide +kernel
theorem d_H_end_23 : decode b_H_end 23 = .ok (.iload_n 1, 1) := by decide +kernel
theorem d_H_end_24 : decode b_H_end 24 = .ok (.putfield 58, 3) := by decide +kernel
theorem d_H_end_27 : decode b_H_end 27 = .ok (.return_, 1) := by decide +kernel
theorem d_H_exported_0 : decode b_H_exported 0 = .ok (.aload_n 0, 1) := by decide +kernel
theorem d_H_exported_1 : decode b_H_exported 1 = .ok (.iload_n 1, 1) := by decide +kernel
theorem d_H_exported_2 : decode b_H_exported 2 = .ok (.invokevirtual 200, 3) := by decide +kernel
theorem d_H_fault_0 : decode b_H_fault 0 = .ok (.iload_n 1, 1) := by decide +kernel
theorem d_H_fault_1 : decode b_H_fault 1 = .ok (.ifCond .lt 8, 3) := by decide +kernel
theorem d_H_fault_4 : decode b_H_fault 4 = .ok (.iload_n 1, 1) := by decide +kernel
theorem d_H_fault_5 : decode b_H_fault 5 = .ok (.iconst 1, 1) := by decide +kernel
theorem d_H_fault_6 : decode b_H_fault 6 = .ok (.if_icmp .le 13, 3) := by decide +kernel
theorem d_H_fault_9 : decode b_H_fault 9 = .ok (.new 117, 3) := by decide +kernel
theorem d_H_fault_12 : decode b_H_fault 12 = .ok (.dup, 1) := by decide +kernel
theorem d_H_fault_13 : decode b_H_fault 13 = .ok (.ldc 119, 2) := by decide +kernel
theorem d_H_fault_15 : decode b_H_fault 15 = .ok (.invokespecial 121, 3) := by decide +kernel
theorem d_H_fault_18 : decode b_H_fault 18 = .ok (.athrow, 1) := by decide +kernel
theorem d_H_fault_19 : decode b_H_fault 19 = .ok (.iload_n 1, 1) := by decide +kernel
theorem d_H_fault_20 : decode b_H_fault 20 = .ok (.ifCond .ne 10, 3) := by decide +kernel
theorem d_H_fault_23 : decode b_H_fault 23 = .ok (.aload_n 0, 1) := by decide +kernel
theorem d_H_fault_24 : decode b_H_fault 24 = .ok (.getfield 97, 3) := by decide +kernel
theorem d_H_fault_27 : decode b_H_fault 27 = .ok (.goto 7, 3) := by decide +kernel
theorem d_H_fault_30 : decode b_H_fault 30 = .ok (.aload_n 0, 1) := by decide +kernel
theorem d_H_fault_31 : decode b_H_fault 31 = .ok (.getfield 100, 3) := by decide +kernel
theorem d_H_fault_34 : decode b_H_fault 34 = .ok (.ireturn, 1) := by decide +kernel
theorem d_H_feed_0 : decode b_H_feed 0 = .ok (.aload_n 0, 1) := by decide +kernel
theorem d_H_feed_1 : decode b_H_feed 1 = .ok (.getfield 58, 3) := by decide +kernel
theorem d_H_feed_4 : decode b_H_feed 4 = .ok (.ldc 62, 2) := by decide +kernel
theorem d_H_feed_6 : decode b_H_feed 6 = .ok (.if_icmp .le 13, 3) := by decide +kernel
theorem d_H_feed_19 : decode b_H_feed 19 = .ok (.aload_n 0, 1) := by decide +kernel
theorem d_H_feed_20 : decode b_H_feed 20 = .ok (.getfield 58, 3) := by decide +kernel
theorem d_H_feed_23 : decode b_H_feed 23 = .ok (.bipush 20, 2) := by decide +kernel
theorem d_H_feed_25 : decode b_H_feed 25 = .ok (.iadd, 1) := by decide +kernel
theorem d_H_feed_26 : decode b_H_feed 26 = .ok (.aload_n 0, 1) := by decide +kernel
theorem d_H_feed_27 : decode b_H_feed 27 = .ok (.getfield 9, 3) := by decide +kernel
theorem d_H_feed_30 : decode b_H_feed 30 = .ok (.arraylength, 1) := by decide +kernel
theorem d_H_feed_31 : decode b_H_feed 31 = .ok (.if_icmp .le 28, 3) := by decide +kernel
theorem d_H_feed_59 : decode b_H_feed 59 = .ok (.aload_n 0, 1) := by decide +kernel
theorem d_H_feed_60 : decode b_H_feed 60 = .ok (.iload_n 1, 1) := by decide +kernel
theorem d_H_feed_61 : decode b_H_feed 61 = .ok (.invokevirtual 83, 3) := by decide +kernel
theorem d_H_feed_64 : decode b_H_feed 64 = .ok (.aload_n 0, 1) := by decide +kernel
theorem d_H_feed_65 : decode b_H_feed 65 = .ok (.iload_n 2, 1) := by decide +kernel
theorem d_H_feed_66 : decode b_H_feed 66 = .ok (.invokevirtual 83, 3) := by decide +kernel
theorem d_H_feed_69 : decode b_H_feed 69 = .ok (.aload_n 0, 1) := by decide +kernel
theorem d_H_feed_70 : decode b_H_feed 70 = .ok (.iload_n 3, 1) := by decide +kernel
theorem d_H_feed_71 : decode b_H_feed 71 = .ok (.invokevirtual 83, 3) := by decide +kernel
theorem d_H_feed_74 : decode b_H_feed 74 = .ok (.aload_n 0, 1) := by decide +kernel
theorem d_H_feed_75 : decode b_H_feed 75 = .ok (.iload 4, 2) := by decide +kernel
theorem d_H_feed_77 : decode b_H_feed 77 = .ok (.invokevirtual 83, 3) := by decide +kernel
theorem d_H_feed_80 : decode b_H_feed 80 = .ok (.aload_n 0, 1) := by decide +kernel
theorem d_H_feed_81 : decode b_H_feed 81 = .ok (.iload 5, 2) := by decide +kernel
theorem d_H_feed_83 : decode b_H_feed 83 = .ok (.invokevirtual 83, 3) := by decide +kernel
theorem d_H_feed_86 : decode b_H_feed 86 = .ok (.aload_n 0, 1) := by decide +kernel
theorem d_H_feed_87 : decode b_H_feed 87 = .ok (.getfield 58, 3) := by decide +kernel
theorem d_H_feed_90 : decode b_H_feed 90 = .ok (.ireturn, 1) := by decide +kernel
theorem d_H_feedNumber_0 : decode b_H_feedNumber 0 = .ok (.bipush 24, 2) := by decide +kernel
theorem d_H_feedNumber_2 : decode b_H_feedNumber 2 = .ok (.istore_n 2, 1) := by decide +kernel
theorem d_H_feedNumber_3 : decode b_H_feedNumber 3 = .ok (.iload_n 2, 1) := by decide +kernel
theorem d_H_feedNumber_4 : decode b_H_feedNumber 4 = .ok (.ifCond .lt 32, 3) := by decide +kernel
theorem d_H_feedNumber_7 : decode b_H_feedNumber 7 = .ok (.aload_n 0, 1) := by decide +kernel
theorem d_H_feedNumber_8 : decode b_H_feedNumber 8 = .ok (.getfield 9, 3) := by decide +kernel
theorem d_H_feedNumber_11 : decode b_H_feedNumber 11 = .ok (.aload_n 0, 1) := by decide +kernel
theorem d_H_feedNumber_12 : decode b_H_feedNumber 12 = .ok (.getfield 58, 3) := by decide +kernel
theorem d_H_feedNumber_15 : decode b_H_feedNumber 15 = .ok (.iload_n 1, 1) := by decide +kernel
theorem d_H_feedNumber_16 : decode b_H_feedNumber 16 = .ok (.iload_n 2, 1) := by decide +kernel
theorem d_H_feedNumber_17 : decode b_H_feedNumber 17 = .ok (.iushr, 1) := by decide +kernel
theorem d_H_feedNumber_18 : decode b_H_feedNumber 18 = .ok (.i2b, 1) := by decide +kernel
theorem d_H_feedNumber_19 : decode b_H_feedNumber 19 = .ok (.bastore, 1) := by decide +kernel
theorem d_H_feedNumber_20 : decode b_H_feedNumber 20 = .ok (.aload_n 0, 1) := by decide +kernel
theorem d_H_feedNumber_21 : decode b_H_feedNumber 21 = .ok (.dup, 1) := by decide +kernel
theorem d_H_feedNumber_22 : decode b_H_feedNumber 22 = .ok (.getfield 58, 3) := by decide +kernel
theorem d_H_feedNumber_25 : decode b_H_feedNumber 25 = .ok (.iconst 1, 1) := by decide +kernel
theorem d_H_feedNumber_26 : decode b_H_feedNumber 26 = .ok (.iadd, 1) := by decide +kernel
theorem d_H_feedNumber_27 : decode b_H_feedNumber 27 = .ok (.putfield 58, 3) := by decide +kernel
theorem d_H_feedNumber_30 : decode b_H_feedNumber 30 = .ok (.iinc 2 (-8), 3) := by decide +kernel
theorem d_H_feedNumber_33 : decode b_H_feedNumber 33 = .ok (.goto (-30), 3) := by decide +kernel
theorem d_H_feedNumber_36 : decode b_H_feedNumber 36 = .ok (.return_, 1) := by decide +kernel
theorem d_H_find_0 : decode b_H_find 0 = .ok (.aload_n 0, 1) := by decide +kernel
theorem d_H_find_1 : decode b_H_find 1 = .ok (.iload_n 1, 1) := by decide +kernel
theorem d_H_find_2 : decode b_H_find 2 = .ok (.invokevirtual 200, 3) := by decide +kernel
theorem d_H_init_0 : decode b_H_init 0 = .ok (.aload_n 0, 1) := by decide +kernel
theorem d_H_init_1 : decode b_H_init 1 = .ok (.invokespecial 3, 3) := by decide +kernel
theorem d_H_init_4 : decode b_H_init 4 = .ok (.aload_n 0, 1) := by decide +kernel
theorem d_H_init_5 : decode b_H_init 5 = .ok (.bipush 20, 2) := by decide +kernel
theorem d_H_init_7 : decode b_H_init 7 = .ok (.newarray .byte, 2) := by decide +kernel
theorem d_H_init_9 : decode b_H_init 9 = .ok (.putfield 9, 3) := by decide +kernel
theorem d_H_init_12 : decode b_H_init 12 = .ok (.aload_n 0, 1) := by decide +kernel
theorem d_H_init_13 : decode b_H_init 13 = .ok (.bipush 64, 2) := by decide +kernel
theorem d_H_init_15 : decode b_H_init 15 = .ok (.anewarray 13, 3) := by decide +kernel
theorem d_H_init_18 : decode b_H_init 18 = .ok (.putfield 15, 3) := by decide +kernel
theorem d_H_init_21 : decode b_H_init 21 = .ok (.aload_n 0, 1) := by decide +kernel
theorem d_H_init_22 : decode b_H_init 22 = .ok (.new 19, 3) := by decide +kernel
theorem d_H_init_25 : decode b_H_init 25 = .ok (.dup, 1) := by decide +kernel
theorem d_H_init_26 : decode b_H_init 26 = .ok (.invokespecial 21, 3) := by decide +kernel
theorem d_H_init_29 : decode b_H_init 29 = .ok (.putfield 22, 3) := by decide +kernel
theorem d_H_init_32 : decode b_H_init 32 = .ok (.aload_n 0, 1) := by decide +kernel
theorem d_H_init_33 : decode b_H_init 33 = .ok (.new 26, 3) := by decide +kernel
theorem d_H_init_36 : decode b_H_init 36 = .ok (.dup, 1) := by decide +kernel
theorem d_H_init_37 : decode b_H_init 37 = .ok (.invokespecial 28, 3) := by decide +kernel
theorem d_H_init_40 : decode b_H_init 40 = .ok (.putfield 29, 3) := by decide +kernel
theorem d_H_init_43 : decode b_H_init 43 = .ok (.aload_n 0, 1) := by decide +kernel
theorem d_H_init_44 : decode b_H_init 44 = .ok (.new 33, 3) := by decide +kernel
theorem d_H_init_47 : decode b_H_init 47 = .ok (.dup, 1) := by decide +kernel
theorem d_H_init_48 : decode b_H_init 48 = .ok (.invokespecial 35, 3) := by decide +kernel
theorem d_H_init_51 : decode b_H_init 51 = .ok (.putfield 36, 3) := by decide +kernel
theorem d_H_init_54 : decode b_H_init 54 = .ok (.aload_n 0, 1) := by decide +kernel
theorem d_H_init_55 : decode b_H_init 55 = .ok (.new 40, 3) := by decide +kernel
theorem d_H_init_58 : decode b_H_init 58 = .ok (.dup, 1) := by decide +kernel
theorem d_H_init_59 : decode b_H_init 59 = .ok (.aload_n 0, 1) := by decide +kernel
theorem d_H_init_60 : decode b_H_init 60 = .ok (.getfield 36, 3) := by decide +kernel
theorem d_H_init_63 : decode b_H_init 63 = .ok (.invokespecial 42, 3) := by decide +kernel
theorem d_H_init_66 : decode b_H_init 66 = .ok (.putfield 45, 3) := by decide +kernel
theorem d_H_init_69 : decode b_H_init 69 = .ok (.aload_n 0, 1) := by decide +kernel
theorem d_H_init_70 : decode b_H_init 70 = .ok (.new 49, 3) := by decide +kernel
theorem d_H_init_73 : decode b_H_init 73 = .ok (.dup, 1) := by decide +kernel
theorem d_H_init_74 : decode b_H_init 74 = .ok (.iconst 1, 1) := by decide +kernel
theorem d_H_init_75 : decode b_H_init 75 = .ok (.invokespecial 51, 3) := by decide +kernel
theorem d_H_init_78 : decode b_H_init 78 = .ok (.putfield 54, 3) := by decide +kernel
theorem d_H_init_81 : decode b_H_init 81 = .ok (.return_, 1) := by decide +kernel
theorem d_H_instanceNumbered_0 : decode b_H_instanceNumbered 0 = .ok (.iload_n 1, 1) := by decide +kernel
theorem d_H_instanceNumbered_1 : decode b_H_instanceNumbered 1 = .ok (.ifCond .lt 14, 3) := by decide +kernel
theorem d_H_instanceNumbered_4 : decode b_H_instanceNumbered 4 = .ok (.iload_n 1, 1) := by decide +kernel
theorem d_H_instanceNumbered_5 : decode b_H_instanceNumbered 5 = .ok (.aload_n 0, 1) := by decide +kernel
theorem d_H_instanceNumbered_6 : decode b_H_instanceNumbered 6 = .ok (.getfield 36, 3) := by decide +kernel
theorem d_H_instanceNumbered_9 : decode b_H_instanceNumbered 9 = .ok (.getfield 211, 3) := by decide +kernel
theorem d_H_instanceNumbered_12 : decode b_H_instanceNumbered 12 = .ok (.if_icmp .lt 13, 3) := by decide +kernel
theorem d_H_instanceNumbered_15 : decode b_H_instanceNumbered 15 = .ok (.new 117, 3) := by decide +kernel
theorem d_H_instanceNumbered_18 : decode b_H_instanceNumbered 18 = .ok (.dup, 1) := by decide +kernel
theorem d_H_instanceNumbered_19 : decode b_H_instanceNumbered 19 = .ok (.ldc 214, 2) := by decide +kernel
theorem d_H_instanceNumbered_21 : decode b_H_instanceNumbered 21 = .ok (.invokespecial 121, 3) := by decide +kernel
theorem d_H_instanceNumbered_24 : decode b_H_instanceNumbered 24 = .ok (.athrow, 1) := by decide +kernel
theorem d_H_instantiate_0 : decode b_H_instantiate 0 = .ok (.aload_n 0, 1) := by decide +kernel
theorem d_H_instantiate_1 : decode b_H_instantiate 1 = .ok (.iload_n 1, 1) := by decide +kernel
theorem d_H_instantiate_2 : decode b_H_instantiate 2 = .ok (.invokevirtual 122, 3) := by decide +kernel
theorem d_H_invoke_0 : decode b_H_invoke 0 = .ok (.aload_n 0, 1) := by decide +kernel
theorem d_H_invoke_1 : decode b_H_invoke 1 = .ok (.iload_n 1, 1) := by decide +kernel
theorem d_H_invoke_2 : decode b_H_invoke 2 = .ok (.invokevirtual 200, 3) := by decide +kernel
theorem d_H_load_0 : decode b_H_load 0 = .ok (.aload_n 0, 1) := by decide +kernel
theorem d_H_load_1 : decode b_H_load 1 = .ok (.invokevirtual 91, 3) := by decide +kernel
theorem d_H_load_4 : decode b_H_load 4 = .ok (.new 13, 3) := by decide +kernel
theorem d_H_load_7 : decode b_H_load 7 = .ok (.dup, 1) := by decide +kernel
theorem d_H_load_8 : decode b_H_load 8 = .ok (.aload_n 0, 1) := by decide +kernel
theorem d_H_load_9 : decode b_H_load 9 = .ok (.getfield 9, 3) := by decide +kernel
theorem d_H_load_12 : decode b_H_load 12 = .ok (.aload_n 0, 1) := by decide +kernel
theorem d_H_load_13 : decode b_H_load 13 = .ok (.getfield 58, 3) := by decide +kernel
theorem d_H_load_16 : decode b_H_load 16 = .ok (.invokestatic 77, 3) := by decide +kernel
theorem d_H_load_19 : decode b_H_load 19 = .ok (.invokespecial 94, 3) := by decide +kernel
theorem d_H_load_22 : decode b_H_load 22 = .ok (.astore_n 1, 1) := by decide +kernel
theorem d_H_load_23 : decode b_H_load 23 = .ok (.aload_n 0, 1) := by decide +kernel
theorem d_H_load_24 : decode b_H_load 24 = .ok (.iconst 0, 1) := by decide +kernel
theorem d_H_load_25 : decode b_H_load 25 = .ok (.putfield 58, 3) := by decide +kernel
theorem d_H_load_28 : decode b_H_load 28 = .ok (.aload_n 0, 1) := by decide +kernel
theorem d_H_load_29 : decode b_H_load 29 = .ok (.iconst 0, 1) := by decide +kernel
theorem d_H_load_30 : decode b_H_load 30 = .ok (.putfield 97, 3) := by decide +kernel
theorem d_H_load_33 : decode b_H_load 33 = .ok (.aload_n 0, 1) := by decide +kernel
theorem d_H_load_34 : decode b_H_load 34 = .ok (.iconst 0, 1) := by decide +kernel
theorem d_H_load_35 : decode b_H_load 35 = .ok (.putfield 100, 3) := by decide +kernel
theorem d_H_load_38 : decode b_H_load 38 = .ok (.aload_n 0, 1) := by decide +kernel
theorem d_H_load_39 : decode b_H_load 39 = .ok (.getfield 22, 3) := by decide +kernel
theorem d_H_load_42 : decode b_H_load 42 = .ok (.aload_n 1, 1) := by decide +kernel
theorem d_H_load_43 : decode b_H_load 43 = .ok (.invokevirtual 103, 3) := by decide +kernel
theorem d_H_load_57 : decode b_H_load 57 = .ok (.astore_n 2, 1) := by decide +kernel
theorem d_H_load_58 : decode b_H_load 58 = .ok (.aload_n 0, 1) := by decide +kernel
theorem d_H_load_59 : decode b_H_load 59 = .ok (.aload_n 1, 1) := by decide +kernel
theorem d_H_load_60 : decode b_H_load 60 = .ok (.getfield 110, 3) := by decide +kernel
theorem d_H_load_63 : decode b_H_load 63 = .ok (.putfield 97, 3) := by decide +kernel
theorem d_H_load_66 : decode b_H_load 66 = .ok (.aload_n 0, 1) := by decide +kernel
theorem d_H_load_67 : decode b_H_load 67 = .ok (.aload_n 1, 1) := by decide +kernel
theorem d_H_load_68 : decode b_H_load 68 = .ok (.getfield 111, 3) := by decide +kernel
theorem d_H_load_71 : decode b_H_load 71 = .ok (.putfield 100, 3) := by decide +kernel
theorem d_H_load_74 : decode b_H_load 74 = .ok (.iconst (-1), 1) := by decide +kernel
theorem d_H_load_75 : decode b_H_load 75 = .ok (.ireturn, 1) := by decide +kernel
theorem d_H_memoryWith_0 : decode b_H_memoryWith 0 = .ok (.aload_n 0, 1) := by decide +kernel
theorem d_H_memoryWith_1 : decode b_H_memoryWith 1 = .ok (.iload_n 1, 1) := by decide +kernel
theorem d_H_memoryWith_2 : decode b_H_memoryWith 2 = .ok (.invokevirtual 200, 3) := by decide +kernel
theorem d_H_module_0 : decode b_H_module 0 = .ok (.aload_n 0, 1) := by decide +kernel
theorem d_H_module_1 : decode b_H_module 1 = .ok (.iload_n 1, 1) := by decide +kernel
theorem d_H_module_2 : decode b_H_module 2 = .ok (.invokevirtual 122, 3) := by decide +kernel
theorem d_H_moduleNumbered_0 : decode b_H_moduleNumbered 0 = .ok (.iload_n 1, 1) := by decide +kernel
theorem d_H_moduleNumbered_1 : decode b_H_moduleNumbered 1 = .ok (.ifCond .lt 11, 3) := by decide +kernel
theorem d_H_moduleNumbered_4 : decode b_H_moduleNumbered 4 = .ok (.iload_n 1, 1) := by decide +kernel
theorem d_H_moduleNumbered_5 : decode b_H_moduleNumbered 5 = .ok (.aload_n 0, 1) := by decide +kernel
theorem d_H_moduleNumbered_6 : decode b_H_moduleNumbered 6 = .ok (.getfield 112, 3) := by decide +kernel
theorem d_H_moduleNumbered_9 : decode b_H_moduleNumbered 9 = .ok (.if_icmp .lt 13, 3) := by decide +kernel
theorem d_H_moduleNumbered_12 : decode b_H_moduleNumbered 12 = .ok (.new 117, 3) := by decide +kernel
theorem d_H_moduleNumbered_15 : decode b_H_moduleNumbered 15 = .ok (.dup, 1) := by decide +kernel
theorem d_H_moduleNumbered_16 : decode b_H_moduleNumbered 16 = .ok (.ldc 159, 2) := by decide +kernel
theorem d_H_moduleNumbered_18 : decode b_H_moduleNumbered 18 = .ok (.invokespecial 121, 3) := by decide +kernel
theorem d_H_moduleNumbered_21 : decode b_H_moduleNumbered 21 = .ok (.athrow, 1) := by decide +kernel
theorem d_H_name_0 : decode b_H_name 0 = .ok (.aload_n 0, 1) := by decide +kernel
theorem d_H_name_1 : decode b_H_name 1 = .ok (.iload_n 1, 1) := by decide +kernel
theorem d_H_name_2 : decode b_H_name 2 = .ok (.invokevirtual 200, 3) := by decide +kernel
theorem d_H_out_0 : decode b_H_out 0 = .ok (.iload_n 1, 1) := by decide +kernel
theorem d_H_out_1 : decode b_H_out 1 = .ok (.ifCond .lt 17, 3) := by decide +kernel
theorem d_H_out_4 : decode b_H_out 4 = .ok (.iload_n 1, 1) := by decide +kernel
theorem d_H_out_5 : decode b_H_out 5 = .ok (.aload_n 0, 1) := by decide +kernel
theorem d_H_out_6 : decode b_H_out 6 = .ok (.getfield 36, 3) := by decide +kernel
theorem d_H_out_9 : decode b_H_out 9 = .ok (.getfield 338, 3) := by decide +kernel
theorem d_H_out_12 : decode b_H_out 12 = .ok (.getfield 242, 3) := by decide +kernel
theorem d_H_out_15 : decode b_H_out 15 = .ok (.if_icmp .lt 14, 3) := by decide +kernel
theorem d_H_out_18 : decode b_H_out 18 = .ok (.new 117, 3) := by decide +kernel
theorem d_H_out_21 : decode b_H_out 21 = .ok (.dup, 1) := by decide +kernel
theorem d_H_out_22 : decode b_H_out 22 = .ok (.ldc_w 341, 3) := by decide +kernel
theorem d_H_out_25 : decode b_H_out 25 = .ok (.invokespecial 121, 3) := by decide +kernel
theorem d_H_out_28 : decode b_H_out 28 = .ok (.athrow, 1) := by decide +kernel
theorem d_H_outs_0 : decode b_H_outs 0 = .ok (.aload_n 0, 1) := by decide +kernel
theorem d_H_outs_1 : decode b_H_outs 1 = .ok (.getfield 36, 3) := by decide +kernel
theorem d_H_outs_4 : decode b_H_outs 4 = .ok (.getfield 338, 3) := by decide +kernel
theorem d_H_outs_7 : decode b_H_outs 7 = .ok (.getfield 242, 3) := by decide +kernel
theorem d_H_outs_10 : decode b_H_outs 10 = .ok (.ireturn, 1) := by decide +kernel
theorem d_H_pages_0 : decode b_H_pages 0 = .ok (.aload_n 0, 1) := by decide +kernel
theorem d_H_pages_1 : decode b_H_pages 1 = .ok (.iload_n 1, 1) := by decide +kernel
theorem d_H_pages_2 : decode b_H_pages 2 = .ok (.invokevirtual 200, 3) := by decide +kernel
theorem d_H_peek_0 : decode b_H_peek 0 = .ok (.aload_n 0, 1) := by decide +kernel
theorem d_H_peek_1 : decode b_H_peek 1 = .ok (.iload_n 1, 1) := by decide +kernel
theorem d_H_peek_2 : decode b_H_peek 2 = .ok (.iload_n 2, 1) := by decide +kernel
theorem d_H_peek_3 : decode b_H_peek 3 = .ok (.invokevirtual 292, 3) := by decide +kernel
theorem d_H_poke_0 : decode b_H_poke 0 = .ok (.aload_n 0, 1) := by decide +kernel
theorem d_H_poke_1 : decode b_H_poke 1 = .ok (.iload_n 1, 1) := by decide +kernel
theorem d_H_poke_2 : decode b_H_poke 2 = .ok (.iload_n 2, 1) := by decide +kernel
theorem d_H_poke_3 : decode b_H_poke 3 = .ok (.invokevirtual 292, 3) := by decide +kernel
theorem d_H_push_0 : decode b_H_push 0 = .ok (.aload_n 0, 1) := by decide +kernel
theorem d_H_push_1 : decode b_H_push 1 = .ok (.getfield 54, 3) := by decide +kernel
theorem d_H_push_4 : decode b_H_push 4 = .ok (.getfield 242, 3) := by decide +kernel
theorem d_H_push_7 : decode b_H_push 7 = .ok (.sipush 1000, 3) := by decide +kernel
theorem d_H_push_10 : decode b_H_push 10 = .ok (.if_icmp .lt 13, 3) := by decide +kernel
theorem d_H_push_23 : decode b_H_push 23 = .ok (.aload_n 0, 1) := by decide +kernel
theorem d_H_push_24 : decode b_H_push 24 = .ok (.getfield 54, 3) := by decide +kernel
theorem d_H_push_27 : decode b_H_push 27 = .ok (.lload_n 1, 1) := by decide +kernel
theorem d_H_push_28 : decode b_H_push 28 = .ok (.invokevirtual 247, 3) := by decide +kernel
theorem d_H_push_31 : decode b_H_push 31 = .ok (.aload_n 0, 1) := by decide +kernel
theorem d_H_push_32 : decode b_H_push 32 = .ok (.getfield 54, 3) := by decide +kernel
theorem d_H_push_35 : decode b_H_push 35 = .ok (.getfield 242, 3) := by decide +kernel
theorem d_H_push_38 : decode b_H_push 38 = .ok (.ireturn, 1) := by decide +kernel
theorem d_H_refuseModuleBeyondLimit_0 : decode b_H_refuseModuleBeyondLimit 0 = .ok (.aload_n 0, 1) := by decide +kernel
theorem d_H_refuseModuleBeyondLimit_1 : decode b_H_refuseModuleBeyondLimit 1 = .ok (.getfield 112, 3) := by decide +kernel
theorem d_H_refuseModuleBeyondLimit_4 : decode b_H_refuseModuleBeyondLimit 4 = .ok (.bipush 64, 2) := by decide +kernel
theorem d_H_refuseModuleBeyondLimit_6 : decode b_H_refuseModuleBeyondLimit 6 = .ok (.if_icmp .ne 13, 3) := by decide +kernel
theorem d_H_refuseModuleBeyondLimit_19 : decode b_H_refuseModuleBeyondLimit 19 = .ok (.return_, 1) := by decide +kernel
theorem d_H_result_0 : decode b_H_result 0 = .ok (.aload_n 0, 1) := by decide +kernel
theorem d_H_result_1 : decode b_H_result 1 = .ok (.getfield 45, 3) := by decide +kernel
theorem d_H_result_4 : decode b_H_result 4 = .ok (.getfield 273, 3) := by decide +kernel
theorem d_H_result_7 : decode b_H_result 7 = .ok (.lreturn, 1) := by decide +kernel
theorem d_H_room_0 : decode b_H_room 0 = .ok (.aload_n 0, 1) := by decide +kernel
theorem d_H_room_1 : decode b_H_room 1 = .ok (.iload_n 1, 1) := by decide +kernel
theorem d_H_room_2 : decode b_H_room 2 = .ok (.invokevirtual 122, 3) := by decide +kernel
theorem d_H_run_0 : decode b_H_run 0 = .ok (.iload_n 1, 1) := by decide +kernel
theorem d_H_run_1 : decode b_H_run 1 = .ok (.ifCond .lt 10, 3) := by decide +kernel
theorem d_H_run_4 : decode b_H_run 4 = .ok (.iload_n 1, 1) := by decide +kernel
theorem d_H_run_5 : decode b_H_run 5 = .ok (.ldc_w 259, 3) := by decide +kernel
theorem d_H_run_8 : decode b_H_run 8 = .ok (.if_icmp .le 14, 3) := by decide +kernel
theorem d_H_run_11 : decode b_H_run 11 = .ok (.new 86, 3) := by decide +kernel
theorem d_H_run_14 : decode b_H_run 14 = .ok (.dup, 1) := by decide +kernel
theorem d_H_run_15 : decode b_H_run 15 = .ok (.ldc_w 260, 3) := by decide +kernel
theorem d_H_run_18 : decode b_H_run 18 = .ok (.invokespecial 90, 3) := by decide +kernel
theorem d_H_run_21 : decode b_H_run 21 = .ok (.athrow, 1) := by decide +kernel
theorem d_H_run_22 : decode b_H_run 22 = .ok (.aload_n 0, 1) := by decide +kernel
theorem d_H_run_23 : decode b_H_run 23 = .ok (.getfield 45, 3) := by decide +kernel
theorem d_H_run_26 : decode b_H_run 26 = .ok (.getfield 194, 3) := by decide +kernel
theorem d_H_run_29 : decode b_H_run 29 = .ok (.ifCond .ne 14, 3) := by decide +kernel
theorem d_H_run_32 : decode b_H_run 32 = .ok (.new 63, 3) := by decide +kernel
theorem d_H_run_35 : decode b_H_run 35 = .ok (.dup, 1) := by decide +kernel
theorem d_H_run_36 : decode b_H_run 36 = .ok (.ldc_w 262, 3) := by decide +kernel
theorem d_H_run_39 : decode b_H_run 39 = .ok (.invokespecial 67, 3) := by decide +kernel
theorem d_H_run_42 : decode b_H_run 42 = .ok (.athrow, 1) := by decide +kernel
theorem d_H_stop_0 : decode b_H_stop 0 = .ok (.aload_n 0, 1) := by decide +kernel
theorem d_H_stop_1 : decode b_H_stop 1 = .ok (.getfield 45, 3) := by decide +kernel
theorem d_H_stop_4 : decode b_H_stop 4 = .ok (.invokevirtual 267, 3) := by decide +kernel
theorem d_H_stop_7 : decode b_H_stop 7 = .ok (.ireturn, 1) := by decide +kernel
theorem d_H_trap_0 : decode b_H_trap 0 = .ok (.iload_n 1, 1) := by decide +kernel
theorem d_H_trap_1 : decode b_H_trap 1 = .ok (.ifCond .lt 15, 3) := by decide +kernel
theorem d_H_trap_4 : decode b_H_trap 4 = .ok (.iload_n 1, 1) := by decide +kernel
theorem d_H_trap_5 : decode b_H_trap 5 = .ok (.aload_n 0, 1) := by decide +kernel
theorem d_H_trap_6 : decode b_H_trap 6 = .ok (.getfield 45, 3) := by decide +kernel
theorem d_H_trap_9 : decode b_H_trap 9 = .ok (.getfield 277, 3) := by decide +kernel
theorem d_H_trap_12 : decode b_H_trap 12 = .ok (.arraylength, 1) := by decide +kernel
theorem d_H_trap_13 : decode b_H_trap 13 = .ok (.if_icmp .lt 14, 3) := by decide +kernel
theorem d_H_trap_16 : decode b_H_trap 16 = .ok (.new 117, 3) := by decide +kernel
theorem d_H_trap_19 : decode b_H_trap 19 = .ok (.dup, 1) := by decide +kernel
theorem d_H_trap_20 : decode b_H_trap 20 = .ok (.ldc_w 281, 3) := by decide +kernel
theorem d_H_trap_23 : decode b_H_trap 23 = .ok (.invokespecial 121, 3) := by decide +kernel
theorem d_H_trap_26 : decode b_H_trap 26 = .ok (.athrow, 1) := by decide +kernel
theorem d_H_trap_27 : decode b_H_trap 27 = .ok (.aload_n 0, 1) := by decide +kernel
theorem d_H_trap_28 : decode b_H_trap 28 = .ok (.getfield 45, 3) := by decide +kernel
theorem d_H_trap_31 : decode b_H_trap 31 = .ok (.getfield 277, 3) := by decide +kernel
theorem d_H_trap_34 : decode b_H_trap 34 = .ok (.iload_n 1, 1) := by decide +kernel
theorem d_H_trap_35 : decode b_H_trap 35 = .ok (.iaload, 1) := by decide +kernel
theorem d_H_trap_36 : decode b_H_trap 36 = .ok (.ireturn, 1) := by decide +kernel
theorem d_H_variable_0 : decode b_H_variable 0 = .ok (.aload_n 0, 1) := by decide +kernel
theorem d_H_variable_1 : decode b_H_variable 1 = .ok (.iload_n 1, 1) := by decide +kernel
theorem d_H_variable_2 : decode b_H_variable 2 = .ok (.invokevirtual 200, 3) := by decide +kernel
theorem d_H_wrong_0 : decode b_H_wrong 0 = .ok (.iconst 0, 1) := by decide +kernel
theorem d_H_wrong_1 : decode b_H_wrong 1 = .ok (.ireturn, 1) := by decide +kernel
theorem d_Law_element_0 : decode b_Law_element 0 = .ok (.aload_n 3, 1) := by decide +kernel
theorem d_Law_element_1 : decode b_Law_element 1 = .ok (.iconst 0, 1) := by decide +kernel
theorem d_Law_element_2 : decode b_Law_element 2 = .ok (.aload_n 0, 1) := by decide +kernel
theorem d_Law_element_3 : decode b_Law_element 3 = .ok (.iload_n 1, 1) := by decide +kernel
theorem d_Law_element_4 : decode b_Law_element 4 = .ok (.iload_n 2, 1) := by decide +kernel
theorem d_Law_element_5 : decode b_Law_element 5 = .ok (.invokevirtual 79, 3) := by decide +kernel
theorem d_Law_element_13 : decode b_Law_element 13 = .ok (.astore 4, 2) := by decide +kernel
theorem d_Law_element_15 : decode b_Law_element 15 = .ok (.iconst 1, 1) := by decide +kernel
theorem d_Law_element_16 : decode b_Law_element 16 = .ok (.ireturn, 1) := by decide +kernel
theorem d_Law_end_0 : decode b_Law_end 0 = .ok (.aload_n 0, 1) := by decide +kernel
theorem d_Law_end_1 : decode b_Law_end 1 = .ok (.iload_n 1, 1) := by decide +kernel
theorem d_Law_end_2 : decode b_Law_end 2 = .ok (.invokevirtual 15, 3) := by decide +kernel
theorem d_Law_end_5 : decode b_Law_end 5 = .ok (.goto 6, 3) := by decide +kernel
theorem d_Law_end_8 : decode b_Law_end 8 = .ok (.astore_n 2, 1) := by decide +kernel
theorem d_Law_end_9 : decode b_Law_end 9 = .ok (.iconst 1, 1) := by decide +kernel
theorem d_Law_end_10 : decode b_Law_end 10 = .ok (.ireturn, 1) := by decide +kernel
theorem d_Law_end_11 : decode b_Law_end 11 = .ok (.iconst 0, 1) := by decide +kernel
theorem d_Law_end_12 : decode b_Law_end 12 = .ok (.ireturn, 1) := by decide +kernel
theorem d_Law_exported_0 : decode b_Law_exported 0 = .ok (.aload 4, 2) := by decide +kernel
theorem d_Law_exported_2 : decode b_Law_exported 2 = .ok (.iconst 0, 1) := by decide +kernel
theorem d_Law_exported_3 : decode b_Law_exported 3 = .ok (.aload_n 0, 1) := by decide +kernel
theorem d_Law_exported_4 : decode b_Law_exported 4 = .ok (.iload_n 1, 1) := by decide +kernel
theorem d_Law_exported_5 : decode b_Law_exported 5 = .ok (.iload_n 2, 1) := by decide +kernel
theorem d_Law_exported_6 : decode b_Law_exported 6 = .ok (.iload_n 3, 1) := by decide +kernel
theorem d_Law_exported_7 : decode b_Law_exported 7 = .ok (.invokevirtual 47, 3) := by decide +kernel
theorem d_Law_exported_15 : decode b_Law_exported 15 = .ok (.astore 5, 2) := by decide +kernel
theorem d_Law_exported_17 : decode b_Law_exported 17 = .ok (.iconst 1, 1) := by decide +kernel
