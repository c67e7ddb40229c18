theorem dX8_add_32 : decode cX8_add 32 = .ok (.iload_n 2, 1) := by decide +kernel
theorem dX8_add_33 : decode cX8_add 33 = .ok (.if_icmp .ne 7, 3) := by decide +kernel
theorem dX8_add_36 : decode cX8_add 36 = .ok (.iconst 1, 1) := by decide +kernel
theorem dX8_add_37 : decode cX8_add 37 = .ok (.goto 4, 3) := by decide +kernel
theorem dX8_add_40 : decode cX8_add 40 = .ok (.iconst 0, 1) := by decide +kernel
theorem dX8_add_41 : decode cX8_add 41 = .ok (.iand, 1) := by decide +kernel
theorem dX8_add_42 : decode cX8_add 42 = .ok (.bastore, 1) := by decide +kernel
theorem dX8_add_43 : decode cX8_add 43 = .ok (.iinc 3 1, 3) := by decide +kernel
theorem dX8_add_46 : decode cX8_add 46 = .ok (.goto (-33), 3) := by decide +kernel
theorem dX8_add_49 : decode cX8_add 49 = .ok (.aload_n 0, 1) := by decide +kernel
theorem dX8_add_50 : decode cX8_add 50 = .ok (.dup, 1) := by decide +kernel
theorem dX8_add_51 : decode cX8_add 51 = .ok (.getfield 19, 3) := by decide +kernel
theorem dX8_add_54 : decode cX8_add 54 = .ok (.iconst 1, 1) := by decide +kernel
theorem dX8_add_55 : decode cX8_add 55 = .ok (.iadd, 1) := by decide +kernel
theorem dX8_add_56 : decode cX8_add 56 = .ok (.putfield 19, 3) := by decide +kernel
theorem dX8_add_59 : decode cX8_add 59 = .ok (.iconst 1, 1) := by decide +kernel
theorem dX8_add_60 : decode cX8_add 60 = .ok (.ireturn, 1) := by decide +kernel
theorem dX8_clear_0 : decode cX8_clear 0 = .ok (.iconst 0, 1) := by decide +kernel
theorem dX8_clear_1 : decode cX8_clear 1 = .ok (.istore_n 1, 1) := by decide +kernel
theorem dX8_clear_2 : decode cX8_clear 2 = .ok (.iload_n 1, 1) := by decide +kernel
theorem dX8_clear_3 : decode cX8_clear 3 = .ok (.sipush 256, 3) := by decide +kernel
theorem dX8_clear_6 : decode cX8_clear 6 = .ok (.if_icmp .ge 16, 3) := by decide +kernel
theorem dX8_clear_9 : decode cX8_clear 9 = .ok (.aload_n 0, 1) := by decide +kernel
theorem dX8_clear_10 : decode cX8_clear 10 = .ok (.getfield 9, 3) := by decide +kernel
theorem dX8_clear_13 : decode cX8_clear 13 = .ok (.iload_n 1, 1) := by decide +kernel
theorem dX8_clear_14 : decode cX8_clear 14 = .ok (.iconst 1, 1) := by decide +kernel
theorem dX8_clear_15 : decode cX8_clear 15 = .ok (.bastore, 1) := by decide +kernel
theorem dX8_clear_16 : decode cX8_clear 16 = .ok (.iinc 1 1, 3) := by decide +kernel
theorem dX8_clear_19 : decode cX8_clear 19 = .ok (.goto (-17), 3) := by decide +kernel
theorem dX8_clear_22 : decode cX8_clear 22 = .ok (.aload_n 0, 1) := by decide +kernel
theorem dX8_clear_23 : decode cX8_clear 23 = .ok (.iconst 0, 1) := by decide +kernel
theorem dX8_clear_24 : decode cX8_clear 24 = .ok (.putfield 19, 3) := by decide +kernel
theorem dX8_clear_27 : decode cX8_clear 27 = .ok (.return_, 1) := by decide +kernel
theorem dX8_fitting_0 : decode cX8_fitting 0 = .ok (.iconst 0, 1) := by decide +kernel
theorem dX8_fitting_1 : decode cX8_fitting 1 = .ok (.istore_n 1, 1) := by decide +kernel
theorem dX8_fitting_2 : decode cX8_fitting 2 = .ok (.iconst 0, 1) := by decide +kernel
theorem dX8_fitting_3 : decode cX8_fitting 3 = .ok (.istore_n 2, 1) := by decide +kernel
theorem dX8_fitting_4 : decode cX8_fitting 4 = .ok (.iload_n 2, 1) := by decide +kernel
theorem dX8_fitting_5 : decode cX8_fitting 5 = .ok (.sipush 256, 3) := by decide +kernel
theorem dX8_fitting_8 : decode cX8_fitting 8 = .ok (.if_icmp .ge 21, 3) := by decide +kernel
theorem dX8_fitting_11 : decode cX8_fitting 11 = .ok (.aload_n 0, 1) := by decide +kernel
theorem dX8_fitting_12 : decode cX8_fitting 12 = .ok (.getfield 9, 3) := by decide +kernel
theorem dX8_fitting_15 : decode cX8_fitting 15 = .ok (.iload_n 2, 1) := by decide +kernel
theorem dX8_fitting_16 : decode cX8_fitting 16 = .ok (.baload, 1) := by decide +kernel
theorem dX8_fitting_17 : decode cX8_fitting 17 = .ok (.ifCond .eq 6, 3) := by decide +kernel
theorem dX8_fitting_20 : decode cX8_fitting 20 = .ok (.iinc 1 1, 3) := by decide +kernel
theorem dX8_fitting_23 : decode cX8_fitting 23 = .ok (.iinc 2 1, 3) := by decide +kernel
theorem dX8_fitting_26 : decode cX8_fitting 26 = .ok (.goto (-22), 3) := by decide +kernel
theorem dX8_fitting_29 : decode cX8_fitting 29 = .ok (.iload_n 1, 1) := by decide +kernel
theorem dX8_fitting_30 : decode cX8_fitting 30 = .ok (.ireturn, 1) := by decide +kernel
theorem dX8_leastFitting_0 : decode cX8_leastFitting 0 = .ok (.iconst 0, 1) := by decide +kernel
theorem dX8_leastFitting_1 : decode cX8_leastFitting 1 = .ok (.istore_n 1, 1) := by decide +kernel
theorem dX8_leastFitting_2 : decode cX8_leastFitting 2 = .ok (.iload_n 1, 1) := by decide +kernel
theorem dX8_leastFitting_3 : decode cX8_leastFitting 3 = .ok (.sipush 256, 3) := by decide +kernel
theorem dX8_leastFitting_6 : decode cX8_leastFitting 6 = .ok (.if_icmp .ge 20, 3) := by decide +kernel
theorem dX8_leastFitting_9 : decode cX8_leastFitting 9 = .ok (.aload_n 0, 1) := by decide +kernel
theorem dX8_leastFitting_10 : decode cX8_leastFitting 10 = .ok (.getfield 9, 3) := by decide +kernel
theorem dX8_leastFitting_13 : decode cX8_leastFitting 13 = .ok (.iload_n 1, 1) := by decide +kernel
theorem dX8_leastFitting_14 : decode cX8_leastFitting 14 = .ok (.baload, 1) := by decide +kernel
theorem dX8_leastFitting_15 : decode cX8_leastFitting 15 = .ok (.ifCond .eq 5, 3) := by decide +kernel
theorem dX8_leastFitting_18 : decode cX8_leastFitting 18 = .ok (.iload_n 1, 1) := by decide +kernel
theorem dX8_leastFitting_19 : decode cX8_leastFitting 19 = .ok (.ireturn, 1) := by decide +kernel
theorem dX8_leastFitting_20 : decode cX8_leastFitting 20 = .ok (.iinc 1 1, 3) := by decide +kernel
theorem dX8_leastFitting_23 : decode cX8_leastFitting 23 = .ok (.goto (-21), 3) := by decide +kernel
theorem dX8_leastFitting_26 : decode cX8_leastFitting 26 = .ok (.iconst (-1), 1) := by decide +kernel
theorem dX8_leastFitting_27 : decode cX8_leastFitting 27 = .ok (.ireturn, 1) := by decide +kernel
theorem dX8_greatestFitting_0 : decode cX8_greatestFitting 0 = .ok (.sipush 255, 3) := by decide +kernel
theorem dX8_greatestFitting_3 : decode cX8_greatestFitting 3 = .ok (.istore_n 1, 1) := by decide +kernel
theorem dX8_greatestFitting_4 : decode cX8_greatestFitting 4 = .ok (.iload_n 1, 1) := by decide +kernel
theorem dX8_greatestFitting_5 : decode cX8_greatestFitting 5 = .ok (.ifCond .lt 20, 3) := by decide +kernel
theorem dX8_greatestFitting_8 : decode cX8_greatestFitting 8 = .ok (.aload_n 0, 1) := by decide +kernel
theorem dX8_greatestFitting_9 : decode cX8_greatestFitting 9 = .ok (.getfield 9, 3) := by decide +kernel
theorem dX8_greatestFitting_12 : decode cX8_greatestFitting 12 = .ok (.iload_n 1, 1) := by decide +kernel
theorem dX8_greatestFitting_13 : decode cX8_greatestFitting 13 = .ok (.baload, 1) := by decide +kernel
theorem dX8_greatestFitting_14 : decode cX8_greatestFitting 14 = .ok (.ifCond .eq 5, 3) := by decide +kernel
theorem dX8_greatestFitting_17 : decode cX8_greatestFitting 17 = .ok (.iload_n 1, 1) := by decide +kernel
theorem dX8_greatestFitting_18 : decode cX8_greatestFitting 18 = .ok (.ireturn, 1) := by decide +kernel
theorem dX8_greatestFitting_19 : decode cX8_greatestFitting 19 = .ok (.iinc 1 (-1), 3) := by decide +kernel
theorem dX8_greatestFitting_22 : decode cX8_greatestFitting 22 = .ok (.goto (-18), 3) := by decide +kernel
theorem dX8_greatestFitting_25 : decode cX8_greatestFitting 25 = .ok (.iconst (-1), 1) := by decide +kernel
theorem dX8_greatestFitting_26 : decode cX8_greatestFitting 26 = .ok (.ireturn, 1) := by decide +kernel
theorem dX8_bestQuestion_0 : decode cX8_bestQuestion 0 = .ok (.iconst (-1), 1) := by decide +kernel
theorem dX8_bestQuestion_1 : decode cX8_bestQuestion 1 = .ok (.istore_n 1, 1) := by decide +kernel
theorem dX8_bestQuestion_2 : decode cX8_bestQuestion 2 = .ok (.aload_n 0, 1) := by decide +kernel
theorem dX8_bestQuestion_3 : decode cX8_bestQuestion 3 = .ok (.invokevirtual 27, 3) := by decide +kernel
theorem dX8_bestQuestion_6 : decode cX8_bestQuestion 6 = .ok (.istore_n 2, 1) := by decide +kernel
theorem dX8_bestQuestion_7 : decode cX8_bestQuestion 7 = .ok (.iconst 0, 1) := by decide +kernel
theorem dX8_bestQuestion_8 : decode cX8_bestQuestion 8 = .ok (.istore_n 3, 1) := by decide +kernel
theorem dX8_bestQuestion_9 : decode cX8_bestQuestion 9 = .ok (.iload_n 3, 1) := by decide +kernel
theorem dX8_bestQuestion_10 : decode cX8_bestQuestion 10 = .ok (.bipush 60, 2) := by decide +kernel
theorem dX8_bestQuestion_12 : decode cX8_bestQuestion 12 = .ok (.if_icmp .gt 32, 3) := by decide +kernel
theorem dX8_bestQuestion_15 : decode cX8_bestQuestion 15 = .ok (.iload_n 2, 1) := by decide +kernel
theorem dX8_bestQuestion_16 : decode cX8_bestQuestion 16 = .ok (.iconst 1, 1) := by decide +kernel
theorem dX8_bestQuestion_17 : decode cX8_bestQuestion 17 = .ok (.if_icmp .le 27, 3) := by decide +kernel
theorem dX8_bestQuestion_20 : decode cX8_bestQuestion 20 = .ok (.aload_n 0, 1) := by decide +kernel
theorem dX8_bestQuestion_21 : decode cX8_bestQuestion 21 = .ok (.iload_n 3, 1) := by decide +kernel
theorem dX8_bestQuestion_22 : decode cX8_bestQuestion 22 = .ok (.invokevirtual 31, 3) := by decide +kernel
theorem dX8_bestQuestion_25 : decode cX8_bestQuestion 25 = .ok (.istore 4, 2) := by decide +kernel
theorem dX8_bestQuestion_27 : decode cX8_bestQuestion 27 = .ok (.iload 4, 2) := by decide +kernel
theorem dX8_bestQuestion_29 : decode cX8_bestQuestion 29 = .ok (.iload_n 2, 1) := by decide +kernel
theorem dX8_bestQuestion_30 : decode cX8_bestQuestion 30 = .ok (.if_icmp .ge 8, 3) := by decide +kernel
theorem dX8_bestQuestion_33 : decode cX8_bestQuestion 33 = .ok (.iload 4, 2) := by decide +kernel
theorem dX8_bestQuestion_35 : decode cX8_bestQuestion 35 = .ok (.istore_n 2, 1) := by decide +kernel
theorem dX8_bestQuestion_36 : decode cX8_bestQuestion 36 = .ok (.iload_n 3, 1) := by decide +kernel
theorem dX8_bestQuestion_37 : decode cX8_bestQuestion 37 = .ok (.istore_n 1, 1) := by decide +kernel
theorem dX8_bestQuestion_38 : decode cX8_bestQuestion 38 = .ok (.iinc 3 1, 3) := by decide +kernel
theorem dX8_bestQuestion_41 : decode cX8_bestQuestion 41 = .ok (.goto (-32), 3) := by decide +kernel
theorem dX8_bestQuestion_44 : decode cX8_bestQuestion 44 = .ok (.iload_n 1, 1) := by decide +kernel
theorem dX8_bestQuestion_45 : decode cX8_bestQuestion 45 = .ok (.ireturn, 1) := by decide +kernel
theorem dX8_greatestPart_0 : decode cX8_greatestPart 0 = .ok (.iconst 0, 1) := by decide +kernel
theorem dX8_greatestPart_1 : decode cX8_greatestPart 1 = .ok (.istore_n 2, 1) := by decide +kernel
theorem dX8_greatestPart_2 : decode cX8_greatestPart 2 = .ok (.iload_n 2, 1) := by decide +kernel
theorem dX8_greatestPart_3 : decode cX8_greatestPart 3 = .ok (.sipush 509, 3) := by decide +kernel
theorem dX8_greatestPart_6 : decode cX8_greatestPart 6 = .ok (.if_icmp .ge 16, 3) := by decide +kernel
theorem dX8_greatestPart_9 : decode cX8_greatestPart 9 = .ok (.aload_n 0, 1) := by decide +kernel
theorem dX8_greatestPart_10 : decode cX8_greatestPart 10 = .ok (.getfield 15, 3) := by decide +kernel
theorem dX8_greatestPart_13 : decode cX8_greatestPart 13 = .ok (.iload_n 2, 1) := by decide +kernel
theorem dX8_greatestPart_14 : decode cX8_greatestPart 14 = .ok (.iconst 0, 1) := by decide +kernel
theorem dX8_greatestPart_15 : decode cX8_greatestPart 15 = .ok (.iastore, 1) := by decide +kernel
theorem dX8_greatestPart_16 : decode cX8_greatestPart 16 = .ok (.iinc 2 1, 3) := by decide +kernel
theorem dX8_greatestPart_19 : decode cX8_greatestPart 19 = .ok (.goto (-17), 3) := by decide +kernel
theorem dX8_greatestPart_22 : decode cX8_greatestPart 22 = .ok (.iconst 0, 1) := by decide +kernel
theorem dX8_greatestPart_23 : decode cX8_greatestPart 23 = .ok (.istore_n 2, 1) := by decide +kernel
theorem dX8_greatestPart_24 : decode cX8_greatestPart 24 = .ok (.iconst 0, 1) := by decide +kernel
theorem dX8_greatestPart_25 : decode cX8_greatestPart 25 = .ok (.istore_n 3, 1) := by decide +kernel
theorem dX8_greatestPart_26 : decode cX8_greatestPart 26 = .ok (.iload_n 3, 1) := by decide +kernel
theorem dX8_greatestPart_27 : decode cX8_greatestPart 27 = .ok (.sipush 256, 3) := by decide +kernel
theorem dX8_greatestPart_30 : decode cX8_greatestPart 30 = .ok (.if_icmp .ge 48, 3) := by decide +kernel
theorem dX8_greatestPart_33 : decode cX8_greatestPart 33 = .ok (.aload_n 0, 1) := by decide +kernel
theorem dX8_greatestPart_34 : decode cX8_greatestPart 34 = .ok (.getfield 9, 3) := by decide +kernel
theorem dX8_greatestPart_37 : decode cX8_greatestPart 37 = .ok (.iload_n 3, 1) := by decide +kernel
theorem dX8_greatestPart_38 : decode cX8_greatestPart 38 = .ok (.baload, 1) := by decide +kernel
theorem dX8_greatestPart_39 : decode cX8_greatestPart 39 = .ok (.ifCond .eq 33, 3) := by decide +kernel
theorem dX8_greatestPart_42 : decode cX8_greatestPart 42 = .ok (.iload_n 3, 1) := by decide +kernel
theorem dX8_greatestPart_43 : decode cX8_greatestPart 43 = .ok (.iload_n 1, 1) := by decide +kernel
theorem dX8_greatestPart_44 : decode cX8_greatestPart 44 = .ok (.invokestatic 23, 3) := by decide +kernel
theorem dX8_greatestPart_47 : decode cX8_greatestPart 47 = .ok (.istore 4, 2) := by decide +kernel
theorem dX8_greatestPart_49 : decode cX8_greatestPart 49 = .ok (.aload_n 0, 1) := by decide +kernel
theorem dX8_greatestPart_50 : decode cX8_greatestPart 50 = .ok (.getfield 15, 3) := by decide +kernel
theorem dX8_greatestPart_53 : decode cX8_greatestPart 53 = .ok (.iload 4, 2) := by decide +kernel
theorem dX8_greatestPart_55 : decode cX8_greatestPart 55 = .ok (.dup2, 1) := by decide +kernel
theorem dX8_greatestPart_56 : decode cX8_greatestPart 56 = .ok (.iaload, 1) := by decide +kernel
theorem dX8_greatestPart_57 : decode cX8_greatestPart 57 = .ok (.iconst 1, 1) := by decide +kernel
theorem dX8_greatestPart_58 : decode cX8_greatestPart 58 = .ok (.iadd, 1) := by decide +kernel
theorem dX8_greatestPart_59 : decode cX8_greatestPart 59 = .ok (.iastore, 1) := by decide +kernel
theorem dX8_greatestPart_60 : decode cX8_greatestPart 60 = .ok (.iload_n 2, 1) := by decide +kernel
theorem dX8_greatestPart_61 : decode cX8_greatestPart 61 = .ok (.aload_n 0, 1) := by decide +kernel
theorem dX8_greatestPart_62 : decode cX8_greatestPart 62 = .ok (.getfield 15, 3) := by decide +kernel
theorem dX8_greatestPart_65 : decode cX8_greatestPart 65 = .ok (.iload 4, 2) := by decide +kernel
theorem dX8_greatestPart_67 : decode cX8_greatestPart 67 = .ok (.iaload, 1) := by decide +kernel
theorem dX8_greatestPart_68 : decode cX8_greatestPart 68 = .ok (.invokestatic 35, 3) := by decide +kernel
theorem dX8_greatestPart_71 : decode cX8_greatestPart 71 = .ok (.istore_n 2, 1) := by decide +kernel
theorem dX8_greatestPart_72 : decode cX8_greatestPart 72 = .ok (.iinc 3 1, 3) := by decide +kernel
theorem dX8_greatestPart_75 : decode cX8_greatestPart 75 = .ok (.goto (-49), 3) := by decide +kernel
theorem dX8_greatestPart_78 : decode cX8_greatestPart 78 = .ok (.iload_n 2, 1) := by decide +kernel
theorem dX8_greatestPart_79 : decode cX8_greatestPart 79 = .ok (.ireturn, 1) := by decide +kernel
theorem dX9_init_0 : decode cX9_init 0 = .ok (.aload_n 0, 1) := by decide +kernel
theorem dX9_init_1 : decode cX9_init 1 = .ok (.invokespecial 3, 3) := by decide +kernel
theorem dX9_init_4 : decode cX9_init 4 = .ok (.aload_n 0, 1) := by decide +kernel
theorem dX9_init_5 : decode cX9_init 5 = .ok (.sipush 240, 3) := by decide +kernel
theorem dX9_init_8 : decode cX9_init 8 = .ok (.newarray .int, 2) := by decide +kernel
theorem dX9_init_10 : decode cX9_init 10 = .ok (.putfield 9, 3) := by decide +kernel
theorem dX9_init_13 : decode cX9_init 13 = .ok (.return_, 1) := by decide +kernel
theorem dX9_add_0 : decode cX9_add 0 = .ok (.aload_n 0, 1) := by decide +kernel
theorem dX9_add_1 : decode cX9_add 1 = .ok (.getfield 15, 3) := by decide +kernel
theorem dX9_add_4 : decode cX9_add 4 = .ok (.sipush 240, 3) := by decide +kernel
theorem dX9_add_7 : decode cX9_add 7 = .ok (.if_icmp .lt 5, 3) := by decide +kernel
theorem dX9_add_10 : decode cX9_add 10 = .ok (.iconst 0, 1) := by decide +kernel
theorem dX9_add_11 : decode cX9_add 11 = .ok (.ireturn, 1) := by decide +kernel
theorem dX9_add_12 : decode cX9_add 12 = .ok (.aload_n 0, 1) := by decide +kernel
theorem dX9_add_13 : decode cX9_add 13 = .ok (.getfield 9, 3) := by decide +kernel
theorem dX9_add_16 : decode cX9_add 16 = .ok (.aload_n 0, 1) := by decide +kernel
theorem dX9_add_17 : decode cX9_add 17 = .ok (.getfield 15, 3) := by decide +kernel
theorem dX9_add_20 : decode cX9_add 20 = .ok (.iload_n 1, 1) := by decide +kernel
theorem dX9_add_21 : decode cX9_add 21 = .ok (.iastore, 1) := by decide +kernel
theorem dX9_add_22 : decode cX9_add 22 = .ok (.aload_n 0, 1) := by decide +kernel
theorem dX9_add_23 : decode cX9_add 23 = .ok (.dup, 1) := by decide +kernel
theorem dX9_add_24 : decode cX9_add 24 = .ok (.getfield 15, 3) := by decide +kernel
theorem dX9_add_27 : decode cX9_add 27 = .ok (.iconst 1, 1) := by decide +kernel
theorem dX9_add_28 : decode cX9_add 28 = .ok (.iadd, 1) := by decide +kernel
theorem dX9_add_29 : decode cX9_add 29 = .ok (.putfield 15, 3) := by decide +kernel
theorem dX9_add_32 : decode cX9_add 32 = .ok (.iconst 1, 1) := by decide +kernel
theorem dX9_add_33 : decode cX9_add 33 = .ok (.ireturn, 1) := by decide +kernel
theorem dX9_clear_0 : decode cX9_clear 0 = .ok (.aload_n 0, 1) := by decide +kernel
theorem dX9_clear_1 : decode cX9_clear 1 = .ok (.iconst 0, 1) := by decide +kernel
theorem dX9_clear_2 : decode cX9_clear 2 = .ok (.putfield 15, 3) := by decide +kernel
theorem dX9_clear_5 : decode cX9_clear 5 = .ok (.return_, 1) := by decide +kernel
theorem dX9_letterAt_0 : decode cX9_letterAt 0 = .ok (.iload_n 1, 1) := by decide +kernel
theorem dX9_letterAt_1 : decode cX9_letterAt 1 = .ok (.ifCond .lt 20, 3) := by decide +kernel
theorem dX9_letterAt_4 : decode cX9_letterAt 4 = .ok (.iload_n 1, 1) := by decide +kernel
theorem dX9_letterAt_5 : decode cX9_letterAt 5 = .ok (.aload_n 0, 1) := by decide +kernel
theorem dX9_letterAt_6 : decode cX9_letterAt 6 = .ok (.getfield 15, 3) := by decide +kernel
theorem dX9_letterAt_9 : decode cX9_letterAt 9 = .ok (.if_icmp .ge 12, 3) := by decide +kernel
theorem dX9_letterAt_12 : decode cX9_letterAt 12 = .ok (.aload_n 0, 1) := by decide +kernel
theorem dX9_letterAt_13 : decode cX9_letterAt 13 = .ok (.getfield 9, 3) := by decide +kernel
theorem dX9_letterAt_16 : decode cX9_letterAt 16 = .ok (.iload_n 1, 1) := by decide +kernel
theorem dX9_letterAt_17 : decode cX9_letterAt 17 = .ok (.iaload, 1) := by decide +kernel
theorem dX9_letterAt_18 : decode cX9_letterAt 18 = .ok (.goto 4, 3) := by decide +kernel
theorem dX9_letterAt_21 : decode cX9_letterAt 21 = .ok (.iconst (-1), 1) := by decide +kernel
theorem dX9_letterAt_22 : decode cX9_letterAt 22 = .ok (.ireturn, 1) := by decide +kernel
theorem dJ6_bitCount_0f7a4_0 : decode cJ6_bitCount_0f7a4 0 = .ok (.iload_n 0, 1) := by decide +kernel
theorem dJ6_bitCount_0f7a4_1 : decode cJ6_bitCount_0f7a4 1 = .ok (.iload_n 0, 1) := by decide +kernel
theorem dJ6_bitCount_0f7a4_2 : decode cJ6_bitCount_0f7a4 2 = .ok (.iconst 1, 1) := by decide +kernel
theorem dJ6_bitCount_0f7a4_3 : decode cJ6_bitCount_0f7a4 3 = .ok (.iushr, 1) := by decide +kernel
theorem dJ6_bitCount_0f7a4_4 : decode cJ6_bitCount_0f7a4 4 = .ok (.ldc_w 265, 3) := by decide +kernel
theorem dJ6_bitCount_0f7a4_7 : decode cJ6_bitCount_0f7a4 7 = .ok (.iand, 1) := by decide +kernel
theorem dJ6_bitCount_0f7a4_8 : decode cJ6_bitCount_0f7a4 8 = .ok (.isub, 1) := by decide +kernel
theorem dJ6_bitCount_0f7a4_9 : decode cJ6_bitCount_0f7a4 9 = .ok (.istore_n 0, 1) := by decide +kernel
theorem dJ6_bitCount_0f7a4_10 : decode cJ6_bitCount_0f7a4 10 = .ok (.iload_n 0, 1) := by decide +kernel
theorem dJ6_bitCount_0f7a4_11 : decode cJ6_bitCount_0f7a4 11 = .ok (.ldc_w 266, 3) := by decide +kernel
theorem dJ6_bitCount_0f7a4_14 : decode cJ6_bitCount_0f7a4 14 = .ok (.iand, 1) := by decide +kernel
theorem dJ6_bitCount_0f7a4_15 : decode cJ6_bitCount_0f7a4 15 = .ok (.iload_n 0, 1) := by decide +kernel
theorem dJ6_bitCount_0f7a4_16 : decode cJ6_bitCount_0f7a4 16 = .ok (.iconst 2, 1) := by decide +kernel
theorem dJ6_bitCount_0f7a4_17 : decode cJ6_bitCount_0f7a4 17 = .ok (.iushr, 1) := by decide +kernel
theorem dJ6_bitCount_0f7a4_18 : decode cJ6_bitCount_0f7a4 18 = .ok (.ldc_w 266, 3) := by decide +kernel
theorem dJ6_bitCount_0f7a4_21 : decode cJ6_bitCount_0f7a4 21 = .ok (.iand, 1) := by decide +kernel
theorem dJ6_bitCount_0f7a4_22 : decode cJ6_bitCount_0f7a4 22 = .ok (.iadd, 1) := by decide +kernel
theorem dJ6_bitCount_0f7a4_23 : decode cJ6_bitCount_0f7a4 23 = .ok (.istore_n 0, 1) := by decide +kernel
theorem dJ6_bitCount_0f7a4_24 : decode cJ6_bitCount_0f7a4 24 = .ok (.iload_n 0, 1) := by decide +kernel
theorem dJ6_bitCount_0f7a4_25 : decode cJ6_bitCount_0f7a4 25 = .ok (.iload_n 0, 1) := by decide +kernel
theorem dJ6_bitCount_0f7a4_26 : decode cJ6_bitCount_0f7a4 26 = .ok (.iconst 4, 1) := by decide +kernel
theorem dJ6_bitCount_0f7a4_27 : decode cJ6_bitCount_0f7a4 27 = .ok (.iushr, 1) := by decide +kernel
theorem dJ6_bitCount_0f7a4_28 : decode cJ6_bitCount_0f7a4 28 = .ok (.iadd, 1) := by decide +kernel
theorem dJ6_bitCount_0f7a4_29 : decode cJ6_bitCount_0f7a4 29 = .ok (.ldc_w 267, 3) := by decide +kernel
theorem dJ6_bitCount_0f7a4_32 : decode cJ6_bitCount_0f7a4 32 = .ok (.iand, 1) := by decide +kernel
theorem dJ6_bitCount_0f7a4_33 : decode cJ6_bitCount_0f7a4 33 = .ok (.istore_n 0, 1) := by decide +kernel
theorem dJ6_bitCount_0f7a4_34 : decode cJ6_bitCount_0f7a4 34 = .ok (.iload_n 0, 1) := by decide +kernel
theorem dJ6_bitCount_0f7a4_35 : decode cJ6_bitCount_0f7a4 35 = .ok (.iload_n 0, 1) := by decide +kernel
theorem dJ6_bitCount_0f7a4_36 : decode cJ6_bitCount_0f7a4 36 = .ok (.bipush 8, 2) := by decide +kernel
theorem dJ6_bitCount_0f7a4_38 : decode cJ6_bitCount_0f7a4 38 = .ok (.iushr, 1) := by decide +kernel
theorem dJ6_bitCount_0f7a4_39 : decode cJ6_bitCount_0f7a4 39 = .ok (.iadd, 1) := by decide +kernel
theorem dJ6_bitCount_0f7a4_40 : decode cJ6_bitCount_0f7a4 40 = .ok (.istore_n 0, 1) := by decide +kernel
theorem dJ6_bitCount_0f7a4_41 : decode cJ6_bitCount_0f7a4 41 = .ok (.iload_n 0, 1) := by decide +kernel
theorem dJ6_bitCount_0f7a4_42 : decode cJ6_bitCount_0f7a4 42 = .ok (.iload_n 0, 1) := by decide +kernel
theorem dJ6_bitCount_0f7a4_43 : decode cJ6_bitCount_0f7a4 43 = .ok (.bipush 16, 2) := by decide +kernel
theorem dJ6_bitCount_0f7a4_45 : decode cJ6_bitCount_0f7a4 45 = .ok (.iushr, 1) := by decide +kernel
theorem dJ6_bitCount_0f7a4_46 : decode cJ6_bitCount_0f7a4 46 = .ok (.iadd, 1) := by decide +kernel
theorem dJ6_bitCount_0f7a4_47 : decode cJ6_bitCount_0f7a4 47 = .ok (.istore_n 0, 1) := by decide +kernel
theorem dJ6_bitCount_0f7a4_48 : decode cJ6_bitCount_0f7a4 48 = .ok (.iload_n 0, 1) := by decide +kernel
theorem dJ6_bitCount_0f7a4_49 : decode cJ6_bitCount_0f7a4 49 = .ok (.bipush 63, 2) := by decide +kernel
theorem dJ6_bitCount_0f7a4_51 : decode cJ6_bitCount_0f7a4 51 = .ok (.iand, 1) := by decide +kernel
theorem dJ6_bitCount_0f7a4_52 : decode cJ6_bitCount_0f7a4 52 = .ok (.ireturn, 1) := by decide +kernel
theorem dJ9_floorMod_7cf53_0 : decode cJ9_floorMod_7cf53 0 = .ok (.iload_n 0, 1) := by decide +kernel
theorem dJ9_floorMod_7cf53_1 : decode cJ9_floorMod_7cf53 1 = .ok (.iload_n 1, 1) := by decide +kernel
theorem dJ9_floorMod_7cf53_2 : decode cJ9_floorMod_7cf53 2 = .ok (.irem, 1) := by decide +kernel
theorem dJ9_floorMod_7cf53_3 : decode cJ9_floorMod_7cf53 3 = .ok (.istore_n 2, 1) := by decide +kernel
theorem dJ9_floorMod_7cf53_4 : decode cJ9_floorMod_7cf53 4 = .ok (.iload_n 0, 1) := by decide +kernel
theorem dJ9_floorMod_7cf53_5 : decode cJ9_floorMod_7cf53 5 = .ok (.iload_n 1, 1) := by decide +kernel
theorem dJ9_floorMod_7cf53_6 : decode cJ9_floorMod_7cf53 6 = .ok (.ixor, 1) := by decide +kernel
theorem dJ9_floorMod_7cf53_7 : decode cJ9_floorMod_7cf53 7 = .ok (.ifCond .ge 11, 3) := by decide +kernel
theorem dJ9_floorMod_7cf53_10 : decode cJ9_floorMod_7cf53 10 = .ok (.iload_n 2, 1) := by decide +kernel
theorem dJ9_floorMod_7cf53_11 : decode cJ9_floorMod_7cf53 11 = .ok (.ifCond .eq 7, 3) := by decide +kernel
theorem dJ9_floorMod_7cf53_14 : decode cJ9_floorMod_7cf53 14 = .ok (.iload_n 2, 1) := by decide +kernel
theorem dJ9_floorMod_7cf53_15 : decode cJ9_floorMod_7cf53 15 = .ok (.iload_n 1, 1) := by decide +kernel
theorem dJ9_floorMod_7cf53_16 : decode cJ9_floorMod_7cf53 16 = .ok (.iadd, 1) := by decide +kernel
theorem dJ9_floorMod_7cf53_17 : decode cJ9_floorMod_7cf53 17 = .ok (.ireturn, 1) := by decide +kernel
theorem dJ9_floorMod_7cf53_18 : decode cJ9_floorMod_7cf53 18 = .ok (.iload_n 2, 1) := by decide +kernel
theorem dJ9_floorMod_7cf53_19 : decode cJ9_floorMod_7cf53 19 = .ok (.ireturn, 1) := by decide +kernel
theorem dJ9_abs_0f7a4_0 : decode cJ9_abs_0f7a4 0 = .ok (.iload_n 0, 1) := by decide +kernel
theorem dJ9_abs_0f7a4_1 : decode cJ9_abs_0f7a4 1 = .ok (.ifCond .ge 8, 3) := by decide +kernel
theorem dJ9_abs_0f7a4_4 : decode cJ9_abs_0f7a4 4 = .ok (.iload_n 0, 1) := by decide +kernel
theorem dJ9_abs_0f7a4_5 : decode cJ9_abs_0f7a4 5 = .ok (.ineg, 1) := by decide +kernel
theorem dJ9_abs_0f7a4_6 : decode cJ9_abs_0f7a4 6 = .ok (.goto 4, 3) := by decide +kernel
theorem dJ9_abs_0f7a4_9 : decode cJ9_abs_0f7a4 9 = .ok (.iload_n 0, 1) := by decide +kernel
theorem dJ9_abs_0f7a4_10 : decode cJ9_abs_0f7a4 10 = .ok (.ireturn, 1) := by decide +kernel
theorem dJ9_max_7cf53_0 : decode cJ9_max_7cf53 0 = .ok (.iload_n 0, 1) := by decide +kernel
theorem dJ9_max_7cf53_1 : decode cJ9_max_7cf53 1 = .ok (.iload_n 1, 1) := by decide +kernel
theorem dJ9_max_7cf53_2 : decode cJ9_max_7cf53 2 = .ok (.if_icmp .lt 7, 3) := by decide +kernel
theorem dJ9_max_7cf53_5 : decode cJ9_max_7cf53 5 = .ok (.iload_n 0, 1) := by decide +kernel
theorem dJ9_max_7cf53_6 : decode cJ9_max_7cf53 6 = .ok (.goto 4, 3) := by decide +kernel
theorem dJ9_max_7cf53_9 : decode cJ9_max_7cf53 9 = .ok (.iload_n 1, 1) := by decide +kernel
theorem dJ9_max_7cf53_10 : decode cJ9_max_7cf53 10 = .ok (.ireturn, 1) := by decide +kernel
theorem dJ9_min_7cf53_0 : decode cJ9_min_7cf53 0 = .ok (.iload_n 0, 1) := by decide +kernel
theorem dJ9_min_7cf53_1 : decode cJ9_min_7cf53 1 = .ok (.iload_n 1, 1) := by decide +kernel
theorem dJ9_min_7cf53_2 : decode cJ9_min_7cf53 2 = .ok (.if_icmp .gt 7, 3) := by decide +kernel
theorem dJ9_min_7cf53_5 : decode cJ9_min_7cf53 5 = .ok (.iload_n 0, 1) := by decide +kernel
theorem dJ9_min_7cf53_6 : decode cJ9_min_7cf53 6 = .ok (.goto 4, 3) := by decide +kernel
theorem dJ9_min_7cf53_9 : decode cJ9_min_7cf53 9 = .ok (.iload_n 1, 1) := by decide +kernel
theorem dJ9_min_7cf53_10 : decode cJ9_min_7cf53 10 = .ok (.ireturn, 1) := by decide +kernel
theorem dX10_init_0 : decode cX10_init 0 = .ok (.aload_n 0, 1) := by decide +kernel
theorem dX10_init_1 : decode cX10_init 1 = .ok (.invokespecial 1, 3) := by decide +kernel
theorem dX10_init_4 : decode cX10_init 4 = .ok (.aload_n 0, 1) := by decide +kernel
theorem dX10_init_5 : decode cX10_init 5 = .ok (.new 7, 3) := by decide +kernel
theorem dX10_init_8 : decode cX10_init 8 = .ok (.dup, 1) := by decide +kernel
theorem dX10_init_9 : decode cX10_init 9 = .ok (.invokespecial 9, 3) := by decide +kernel
theorem dX10_init_12 : decode cX10_init 12 = .ok (.putfield 10, 3) := by decide +kernel
theorem dX10_init_15 : decode cX10_init 15 = .ok (.aload_n 0, 1) := by decide +kernel
theorem dX10_init_16 : decode cX10_init 16 = .ok (.new 16, 3) := by decide +kernel
theorem dX10_init_19 : decode cX10_init 19 = .ok (.dup, 1) := by decide +kernel
theorem dX10_init_20 : decode cX10_init 20 = .ok (.invokespecial 18, 3) := by decide +kernel
theorem dX10_init_23 : decode cX10_init 23 = .ok (.putfield 19, 3) := by decide +kernel
theorem dX10_init_26 : decode cX10_init 26 = .ok (.aload_n 0, 1) := by decide +kernel
theorem dX10_init_27 : decode cX10_init 27 = .ok (.new 23, 3) := by decide +kernel
theorem dX10_init_30 : decode cX10_init 30 = .ok (.dup, 1) := by decide +kernel
theorem dX10_init_31 : decode cX10_init 31 = .ok (.invokespecial 25, 3) := by decide +kernel
theorem dX10_init_34 : decode cX10_init 34 = .ok (.putfield 26, 3) := by decide +kernel
theorem dX10_init_37 : decode cX10_init 37 = .ok (.aload_n 0, 1) := by decide +kernel
theorem dX10_init_38 : decode cX10_init 38 = .ok (.new 30, 3) := by decide +kernel
theorem dX10_init_41 : decode cX10_init 41 = .ok (.dup, 1) := by decide +kernel
theorem dX10_init_42 : decode cX10_init 42 = .ok (.aload_n 0, 1) := by decide +kernel
theorem dX10_init_43 : decode cX10_init 43 = .ok (.getfield 26, 3) := by decide +kernel
theorem dX10_init_46 : decode cX10_init 46 = .ok (.invokespecial 32, 3) := by decide +kernel
theorem dX10_init_49 : decode cX10_init 49 = .ok (.putfield 35, 3) := by decide +kernel
theorem dX10_init_52 : decode cX10_init 52 = .ok (.aload_n 0, 1) := by decide +kernel
theorem dX10_init_53 : decode cX10_init 53 = .ok (.new 30, 3) := by decide +kernel
theorem dX10_init_56 : decode cX10_init 56 = .ok (.dup, 1) := by decide +kernel
theorem dX10_init_57 : decode cX10_init 57 = .ok (.aload_n 0, 1) := by decide +kernel
theorem dX10_init_58 : decode cX10_init 58 = .ok (.getfield 26, 3) := by decide +kernel
theorem dX10_init_61 : decode cX10_init 61 = .ok (.invokespecial 32, 3) := by decide +kernel
theorem dX10_init_64 : decode cX10_init 64 = .ok (.putfield 39, 3) := by decide +kernel
theorem dX10_init_67 : decode cX10_init 67 = .ok (.aload_n 0, 1) := by decide +kernel
theorem dX10_init_68 : decode cX10_init 68 = .ok (.new 42, 3) := by decide +kernel
theorem dX10_init_71 : decode cX10_init 71 = .ok (.dup, 1) := by decide +kernel
theorem dX10_init_72 : decode cX10_init 72 = .ok (.aload_n 0, 1) := by decide +kernel
theorem dX10_init_73 : decode cX10_init 73 = .ok (.getfield 26, 3) := by decide +kernel
theorem dX10_init_76 : decode cX10_init 76 = .ok (.invokespecial 44, 3) := by decide +kernel
theorem dX10_init_79 : decode cX10_init 79 = .ok (.putfield 45, 3) := by decide +kernel
theorem dX10_init_82 : decode cX10_init 82 = .ok (.aload_n 0, 1) := by decide +kernel
theorem dX10_init_83 : decode cX10_init 83 = .ok (.new 49, 3) := by decide +kernel
theorem dX10_init_86 : decode cX10_init 86 = .ok (.dup, 1) := by decide +kernel
theorem dX10_init_87 : decode cX10_init 87 = .ok (.aload_n 0, 1) := by decide +kernel
theorem dX10_init_88 : decode cX10_init 88 = .ok (.getfield 26, 3) := by decide +kernel
theorem dX10_init_91 : decode cX10_init 91 = .ok (.invokespecial 51, 3) := by decide +kernel
theorem dX10_init_94 : decode cX10_init 94 = .ok (.putfield 52, 3) := by decide +kernel
theorem dX10_init_97 : decode cX10_init 97 = .ok (.aload_n 0, 1) := by decide +kernel
theorem dX10_init_98 : decode cX10_init 98 = .ok (.new 56, 3) := by decide +kernel
theorem dX10_init_101 : decode cX10_init 101 = .ok (.dup, 1) := by decide +kernel
theorem dX10_init_102 : decode cX10_init 102 = .ok (.aload_n 0, 1) := by decide +kernel
theorem dX10_init_103 : decode cX10_init 103 = .ok (.getfield 26, 3) := by decide +kernel
theorem dX10_init_106 : decode cX10_init 106 = .ok (.invokespecial 58, 3) := by decide +kernel
theorem dX10_init_109 : decode cX10_init 109 = .ok (.putfield 59, 3) := by decide +kernel
theorem dX10_init_112 : decode cX10_init 112 = .ok (.aload_n 0, 1) := by decide +kernel
theorem dX10_init_113 : decode cX10_init 113 = .ok (.new 63, 3) := by decide +kernel
theorem dX10_init_116 : decode cX10_init 116 = .ok (.dup, 1) := by decide +kernel
theorem dX10_init_117 : decode cX10_init 117 = .ok (.invokespecial 65, 3) := by decide +kernel
theorem dX10_init_120 : decode cX10_init 120 = .ok (.putfield 66, 3) := by decide +kernel
theorem dX10_init_123 : decode cX10_init 123 = .ok (.aload_n 0, 1) := by decide +kernel
theorem dX10_init_124 : decode cX10_init 124 = .ok (.new 70, 3) := by decide +kernel
theorem dX10_init_127 : decode cX10_init 127 = .ok (.dup, 1) := by decide +kernel
theorem dX10_init_128 : decode cX10_init 128 = .ok (.invokespecial 72, 3) := by decide +kernel
theorem dX10_init_131 : decode cX10_init 131 = .ok (.putfield 73, 3) := by decide +kernel
theorem dX10_init_134 : decode cX10_init 134 = .ok (.aload_n 0, 1) := by decide +kernel
theorem dX10_init_135 : decode cX10_init 135 = .ok (.new 77, 3) := by decide +kernel
theorem dX10_init_138 : decode cX10_init 138 = .ok (.dup, 1) := by decide +kernel
theorem dX10_init_139 : decode cX10_init 139 = .ok (.invokespecial 79, 3) := by decide +kernel
theorem dX10_init_142 : decode cX10_init 142 = .ok (.putfield 80, 3) := by decide +kernel
theorem dX10_init_145 : decode cX10_init 145 = .ok (.aload_n 0, 1) := by decide +kernel
theorem dX10_init_146 : decode cX10_init 146 = .ok (.iconst (-1), 1) := by decide +kernel
theorem dX10_init_147 : decode cX10_init 147 = .ok (.putfield 84, 3) := by decide +kernel
theorem dX10_init_150 : decode cX10_init 150 = .ok (.aload_n 0, 1) := by decide +kernel
theorem dX10_init_151 : decode cX10_init 151 = .ok (.getfield 35, 3) := by decide +kernel
theorem dX10_init_154 : decode cX10_init 154 = .ok (.invokevirtual 88, 3) := by decide +kernel
theorem dX10_init_157 : decode cX10_init 157 = .ok (.aload_n 0, 1) := by decide +kernel
theorem dX10_init_158 : decode cX10_init 158 = .ok (.getfield 66, 3) := by decide +kernel
theorem dX10_init_161 : decode cX10_init 161 = .ok (.invokevirtual 91, 3) := by decide +kernel
theorem dX10_init_164 : decode cX10_init 164 = .ok (.return_, 1) := by decide +kernel
theorem dX10_feed_0 : decode cX10_feed 0 = .ok (.iload_n 1, 1) := by decide +kernel
theorem dX10_feed_1 : decode cX10_feed 1 = .ok (.ifCond .lt 10, 3) := by decide +kernel
theorem dX10_feed_4 : decode cX10_feed 4 = .ok (.iload_n 1, 1) := by decide +kernel
theorem dX10_feed_5 : decode cX10_feed 5 = .ok (.sipush 255, 3) := by decide +kernel
theorem dX10_feed_8 : decode cX10_feed 8 = .ok (.if_icmp .le 6, 3) := by decide +kernel
theorem dX10_feed_11 : decode cX10_feed 11 = .ok (.ldc 94, 2) := by decide +kernel
theorem dX10_feed_13 : decode cX10_feed 13 = .ok (.ireturn, 1) := by decide +kernel
theorem dX10_feed_14 : decode cX10_feed 14 = .ok (.aload_n 0, 1) := by decide +kernel
theorem dX10_feed_15 : decode cX10_feed 15 = .ok (.getfield 10, 3) := by decide +kernel
theorem dX10_feed_18 : decode cX10_feed 18 = .ok (.iload_n 1, 1) := by decide +kernel
theorem dX10_feed_19 : decode cX10_feed 19 = .ok (.invokevirtual 95, 3) := by decide +kernel
theorem dX10_feed_22 : decode cX10_feed 22 = .ok (.ifCond .eq 13, 3) := by decide +kernel
theorem dX10_feed_25 : decode cX10_feed 25 = .ok (.aload_n 0, 1) := by decide +kernel
theorem dX10_feed_26 : decode cX10_feed 26 = .ok (.getfield 10, 3) := by decide +kernel
theorem dX10_feed_29 : decode cX10_feed 29 = .ok (.getfield 99, 3) := by decide +kernel
theorem dX10_feed_32 : decode cX10_feed 32 = .ok (.goto 5, 3) := by decide +kernel
theorem dX10_feed_35 : decode cX10_feed 35 = .ok (.ldc 102, 2) := by decide +kernel
theorem dX10_feed_37 : decode cX10_feed 37 = .ok (.ireturn, 1) := by decide +kernel
theorem dX10_street_0 : decode cX10_street 0 = .ok (.aload_n 0, 1) := by decide +kernel
theorem dX10_street_1 : decode cX10_street 1 = .ok (.getfield 19, 3) := by decide +kernel
theorem dX10_street_4 : decode cX10_street 4 = .ok (.aload_n 0, 1) := by decide +kernel
theorem dX10_street_5 : decode cX10_street 5 = .ok (.getfield 10, 3) := by decide +kernel
theorem dX10_street_8 : decode cX10_street 8 = .ok (.invokevirtual 103, 3) := by decide +kernel
theorem dX10_street_11 : decode cX10_street 11 = .ok (.aload_n 0, 1) := by decide +kernel
theorem dX10_street_12 : decode cX10_street 12 = .ok (.getfield 10, 3) := by decide +kernel
theorem dX10_street_15 : decode cX10_street 15 = .ok (.invokevirtual 107, 3) := by decide +kernel
theorem dX10_street_18 : decode cX10_street 18 = .ok (.aload_n 0, 1) := by decide +kernel
theorem dX10_street_19 : decode cX10_street 19 = .ok (.aload_n 0, 1) := by decide +kernel
theorem dX10_street_20 : decode cX10_street 20 = .ok (.getfield 19, 3) := by decide +kernel
theorem dX10_street_23 : decode cX10_street 23 = .ok (.getfield 108, 3) := by decide +kernel
theorem dX10_street_26 : decode cX10_street 26 = .ok (.putfield 84, 3) := by decide +kernel
theorem dX10_street_29 : decode cX10_street 29 = .ok (.aload_n 0, 1) := by decide +kernel
theorem dX10_street_30 : decode cX10_street 30 = .ok (.getfield 19, 3) := by decide +kernel
theorem dX10_street_33 : decode cX10_street 33 = .ok (.getfield 109, 3) := by decide +kernel
theorem dX10_street_36 : decode cX10_street 36 = .ok (.ifCond .eq 14, 3) := by decide +kernel
theorem dX10_street_39 : decode cX10_street 39 = .ok (.bipush (-10), 2) := by decide +kernel
theorem dX10_street_41 : decode cX10_street 41 = .ok (.aload_n 0, 1) := by decide +kernel
theorem dX10_street_42 : decode cX10_street 42 = .ok (.getfield 19, 3) := by decide +kernel
theorem dX10_street_45 : decode cX10_street 45 = .ok (.getfield 109, 3) := by decide +kernel
theorem dX10_street_48 : decode cX10_street 48 = .ok (.isub, 1) := by decide +kernel
theorem dX10_street_49 : decode cX10_street 49 = .ok (.ireturn, 1) := by decide +kernel
theorem dX10_street_50 : decode cX10_street 50 = .ok (.aload_n 0, 1) := by decide +kernel
theorem dX10_street_51 : decode cX10_street 51 = .ok (.getfield 26, 3) := by decide +kernel
theorem dX10_street_54 : decode cX10_street 54 = .ok (.aload_n 0, 1) := by decide +kernel
theorem dX10_street_55 : decode cX10_street 55 = .ok (.getfield 19, 3) := by decide +kernel
theorem dX10_street_58 : decode cX10_street 58 = .ok (.getfield 112, 3) := by decide +kernel
theorem dX10_street_61 : decode cX10_street 61 = .ok (.invokevirtual 115, 3) := by decide +kernel
theorem dX10_street_64 : decode cX10_street 64 = .ok (.aload_n 0, 1) := by decide +kernel
theorem dX10_street_65 : decode cX10_street 65 = .ok (.getfield 35, 3) := by decide +kernel
theorem dX10_street_68 : decode cX10_street 68 = .ok (.invokevirtual 88, 3) := by decide +kernel
theorem dX10_street_71 : decode cX10_street 71 = .ok (.aload_n 0, 1) := by decide +kernel
theorem dX10_street_72 : decode cX10_street 72 = .ok (.getfield 45, 3) := by decide +kernel
theorem dX10_street_75 : decode cX10_street 75 = .ok (.invokevirtual 118, 3) := by decide +kernel
theorem dX10_street_78 : decode cX10_street 78 = .ok (.aload_n 0, 1) := by decide +kernel
theorem dX10_street_79 : decode cX10_street 79 = .ok (.getfield 52, 3) := by decide +kernel
theorem dX10_street_82 : decode cX10_street 82 = .ok (.invokevirtual 121, 3) := by decide +kernel
theorem dX10_street_85 : decode cX10_street 85 = .ok (.aload_n 0, 1) := by decide +kernel
theorem dX10_street_86 : decode cX10_street 86 = .ok (.getfield 66, 3) := by decide +kernel
theorem dX10_street_89 : decode cX10_street 89 = .ok (.invokevirtual 91, 3) := by decide +kernel
theorem dX10_street_92 : decode cX10_street 92 = .ok (.aload_n 0, 1) := by decide +kernel
theorem dX10_street_93 : decode cX10_street 93 = .ok (.getfield 73, 3) := by decide +kernel
theorem dX10_street_96 : decode cX10_street 96 = .ok (.invokevirtual 122, 3) := by decide +kernel
theorem dX10_street_99 : decode cX10_street 99 = .ok (.aload_n 0, 1) := by decide +kernel
theorem dX10_street_100 : decode cX10_street 100 = .ok (.getfield 26, 3) := by decide +kernel
theorem dX10_street_103 : decode cX10_street 103 = .ok (.getfield 123, 3) := by decide +kernel
theorem dX10_street_106 : decode cX10_street 106 = .ok (.ireturn, 1) := by decide +kernel
theorem dX10_fault_0 : decode cX10_fault 0 = .ok (.aload_n 0, 1) := by decide +kernel
theorem dX10_fault_1 : decode cX10_fault 1 = .ok (.getfield 84, 3) := by decide +kernel
theorem dX10_fault_4 : decode cX10_fault 4 = .ok (.ireturn, 1) := by decide +kernel
theorem dX10_told_0 : decode cX10_told 0 = .ok (.iload_n 1, 1) := by decide +kernel
theorem dX10_told_1 : decode cX10_told 1 = .ok (.tableswitch 179 0 12 #[67, 83, 91, 99, 107, 115, 123, 131, 139, 147, 155, 163, 171], 67) := by decide +kernel
theorem dX10_told_68 : decode cX10_told 68 = .ok (.aload_n 0, 1) := by decide +kernel
theorem dX10_told_69 : decode cX10_told 69 = .ok (.getfield 26, 3) := by decide +kernel
theorem dX10_told_72 : decode cX10_told 72 = .ok (.getfield 126, 3) := by decide +kernel
theorem dX10_told_75 : decode cX10_told 75 = .ok (.ifCond .eq 7, 3) := by decide +kernel
theorem dX10_told_78 : decode cX10_told 78 = .ok (.iconst 1, 1) := by decide +kernel
theorem dX10_told_79 : decode cX10_told 79 = .ok (.goto 4, 3) := by decide +kernel
theorem dX10_told_82 : decode cX10_told 82 = .ok (.iconst 0, 1) := by decide +kernel
theorem dX10_told_83 : decode cX10_told 83 = .ok (.ireturn, 1) := by decide +kernel
theorem dX10_told_84 : decode cX10_told 84 = .ok (.aload_n 0, 1) := by decide +kernel
theorem dX10_told_85 : decode cX10_told 85 = .ok (.getfield 26, 3) := by decide +kernel
theorem dX10_told_88 : decode cX10_told 88 = .ok (.getfield 130, 3) := by decide +kernel
theorem dX10_told_91 : decode cX10_told 91 = .ok (.ireturn, 1) := by decide +kernel
theorem dX10_told_92 : decode cX10_told 92 = .ok (.aload_n 0, 1) := by decide +kernel
theorem dX10_told_93 : decode cX10_told 93 = .ok (.getfield 26, 3) := by decide +kernel
theorem dX10_told_96 : decode cX10_told 96 = .ok (.getfield 123, 3) := by decide +kernel
theorem dX10_told_99 : decode cX10_told 99 = .ok (.ireturn, 1) := by decide +kernel
theorem dX10_told_100 : decode cX10_told 100 = .ok (.aload_n 0, 1) := by decide +kernel
theorem dX10_told_101 : decode cX10_told 101 = .ok (.getfield 10, 3) := by decide +kernel
theorem dX10_told_104 : decode cX10_told 104 = .ok (.getfield 99, 3) := by decide +kernel
theorem dX10_told_107 : decode cX10_told 107 = .ok (.ireturn, 1) := by decide +kernel
theorem dX10_told_108 : decode cX10_told 108 = .ok (.aload_n 0, 1) := by decide +kernel
theorem dX10_told_109 : decode cX10_told 109 = .ok (.getfield 35, 3) := by decide +kernel
theorem dX10_told_112 : decode cX10_told 112 = .ok (.getfield 133, 3) := by decide +kernel
theorem dX10_told_115 : decode cX10_told 115 = .ok (.ireturn, 1) := by decide +kernel
theorem dX10_told_116 : decode cX10_told 116 = .ok (.aload_n 0, 1) := by decide +kernel
theorem dX10_told_117 : decode cX10_told 117 = .ok (.getfield 35, 3) := by decide +kernel
theorem dX10_told_120 : decode cX10_told 120 = .ok (.getfield 136, 3) := by decide +kernel
theorem dX10_told_123 : decode cX10_told 123 = .ok (.ireturn, 1) := by decide +kernel
theorem dX10_told_124 : decode cX10_told 124 = .ok (.aload_n 0, 1) := by decide +kernel
theorem dX10_told_125 : decode cX10_told 125 = .ok (.getfield 26, 3) := by decide +kernel
theorem dX10_told_128 : decode cX10_told 128 = .ok (.getfield 139, 3) := by decide +kernel
theorem dX10_told_131 : decode cX10_told 131 = .ok (.ireturn, 1) := by decide +kernel
theorem dX10_told_132 : decode cX10_told 132 = .ok (.aload_n 0, 1) := by decide +kernel
theorem dX10_told_133 : decode cX10_told 133 = .ok (.getfield 35, 3) := by decide +kernel
theorem dX10_told_136 : decode cX10_told 136 = .ok (.getfield 142, 3) := by decide +kernel
theorem dX10_told_139 : decode cX10_told 139 = .ok (.ireturn, 1) := by decide +kernel
theorem dX10_told_140 : decode cX10_told 140 = .ok (.aload_n 0, 1) := by decide +kernel
theorem dX10_told_141 : decode cX10_told 141 = .ok (.getfield 35, 3) := by decide +kernel
theorem dX10_told_144 : decode cX10_told 144 = .ok (.getfield 145, 3) := by decide +kernel
theorem dX10_told_147 : decode cX10_told 147 = .ok (.ireturn, 1) := by decide +kernel
theorem dX10_told_148 : decode cX10_told 148 = .ok (.aload_n 0, 1) := by decide +kernel
theorem dX10_told_149 : decode cX10_told 149 = .ok (.getfield 35, 3) := by decide +kernel
theorem dX10_told_152 : decode cX10_told 152 = .ok (.invokevirtual 148, 3) := by decide +kernel
theorem dX10_told_155 : decode cX10_told 155 = .ok (.ireturn, 1) := by decide +kernel
theorem dX10_told_156 : decode cX10_told 156 = .ok (.aload_n 0, 1) := by decide +kernel
theorem dX10_told_157 : decode cX10_told 157 = .ok (.getfield 66, 3) := by decide +kernel
theorem dX10_told_160 : decode cX10_told 160 = .ok (.getfield 152, 3) := by decide +kernel
theorem dX10_told_163 : decode cX10_told 163 = .ok (.ireturn, 1) := by decide +kernel
theorem dX10_told_164 : decode cX10_told 164 = .ok (.aload_n 0, 1) := by decide +kernel
theorem dX10_told_165 : decode cX10_told 165 = .ok (.getfield 73, 3) := by decide +kernel
theorem dX10_told_168 : decode cX10_told 168 = .ok (.getfield 155, 3) := by decide +kernel
theorem dX10_told_171 : decode cX10_told 171 = .ok (.ireturn, 1) := by decide +kernel
theorem dX10_told_172 : decode cX10_told 172 = .ok (.aload_n 0, 1) := by decide +kernel
theorem dX10_told_173 : decode cX10_told 173 = .ok (.getfield 45, 3) := by decide +kernel
theorem dX10_told_176 : decode cX10_told 176 = .ok (.getfield 156, 3) := by decide +kernel
theorem dX10_told_179 : decode cX10_told 179 = .ok (.ireturn, 1) := by decide +kernel
theorem dX10_told_180 : decode cX10_told 180 = .ok (.ldc 94, 2) := by decide +kernel
theorem dX10_told_182 : decode cX10_told 182 = .ok (.ireturn, 1) := by decide +kernel
theorem dX10_fob_0 : decode cX10_fob 0 = .ok (.aload_n 0, 1) := by decide +kernel
theorem dX10_fob_1 : decode cX10_fob 1 = .ok (.getfield 26, 3) := by decide +kernel
theorem dX10_fob_4 : decode cX10_fob 4 = .ok (.iload_n 1, 1) := by decide +kernel
theorem dX10_fob_5 : decode cX10_fob 5 = .ok (.invokevirtual 157, 3) := by decide +kernel
theorem dX10_fob_8 : decode cX10_fob 8 = .ok (.ifCond .ne 6, 3) := by decide +kernel
theorem dX10_fob_11 : decode cX10_fob 11 = .ok (.ldc 160, 2) := by decide +kernel
theorem dX10_fob_13 : decode cX10_fob 13 = .ok (.ireturn, 1) := by decide +kernel
theorem dX10_fob_14 : decode cX10_fob 14 = .ok (.iload_n 2, 1) := by decide +kernel
theorem dX10_fob_15 : decode cX10_fob 15 = .ok (.tableswitch 107 0 6 #[41, 51, 61, 71, 81, 91, 101], 41) := by decide +kernel
theorem dX10_fob_56 : decode cX10_fob 56 = .ok (.aload_n 0, 1) := by decide +kernel
theorem dX10_fob_57 : decode cX10_fob 57 = .ok (.getfield 26, 3) := by decide +kernel
theorem dX10_fob_60 : decode cX10_fob 60 = .ok (.getfield 161, 3) := by decide +kernel
theorem dX10_fob_63 : decode cX10_fob 63 = .ok (.iload_n 1, 1) := by decide +kernel
theorem dX10_fob_64 : decode cX10_fob 64 = .ok (.iaload, 1) := by decide +kernel
theorem dX10_fob_65 : decode cX10_fob 65 = .ok (.ireturn, 1) := by decide +kernel
theorem dX10_fob_66 : decode cX10_fob 66 = .ok (.aload_n 0, 1) := by decide +kernel
theorem dX10_fob_67 : decode cX10_fob 67 = .ok (.getfield 35, 3) := by decide +kernel
theorem dX10_fob_70 : decode cX10_fob 70 = .ok (.getfield 165, 3) := by decide +kernel
theorem dX10_fob_73 : decode cX10_fob 73 = .ok (.iload_n 1, 1) := by decide +kernel
theorem dX10_fob_74 : decode cX10_fob 74 = .ok (.iaload, 1) := by decide +kernel
theorem dX10_fob_75 : decode cX10_fob 75 = .ok (.ireturn, 1) := by decide +kernel
theorem dX10_fob_76 : decode cX10_fob 76 = .ok (.aload_n 0, 1) := by decide +kernel
theorem dX10_fob_77 : decode cX10_fob 77 = .ok (.getfield 26, 3) := by decide +kernel
theorem dX10_fob_80 : decode cX10_fob 80 = .ok (.getfield 168, 3) := by decide +kernel
theorem dX10_fob_83 : decode cX10_fob 83 = .ok (.iload_n 1, 1) := by decide +kernel
theorem dX10_fob_84 : decode cX10_fob 84 = .ok (.iaload, 1) := by decide +kernel
theorem dX10_fob_85 : decode cX10_fob 85 = .ok (.ireturn, 1) := by decide +kernel
theorem dX10_fob_86 : decode cX10_fob 86 = .ok (.aload_n 0, 1) := by decide +kernel
theorem dX10_fob_87 : decode cX10_fob 87 = .ok (.getfield 26, 3) := by decide +kernel
theorem dX10_fob_90 : decode cX10_fob 90 = .ok (.getfield 171, 3) := by decide +kernel
theorem dX10_fob_93 : decode cX10_fob 93 = .ok (.iload_n 1, 1) := by decide +kernel
theorem dX10_fob_94 : decode cX10_fob 94 = .ok (.iaload, 1) := by decide +kernel
theorem dX10_fob_95 : decode cX10_fob 95 = .ok (.ireturn, 1) := by decide +kernel
theorem dX10_fob_96 : decode cX10_fob 96 = .ok (.aload_n 0, 1) := by decide +kernel
theorem dX10_fob_97 : decode cX10_fob 97 = .ok (.getfield 35, 3) := by decide +kernel
theorem dX10_fob_100 : decode cX10_fob 100 = .ok (.getfield 174, 3) := by decide +kernel
theorem dX10_fob_103 : decode cX10_fob 103 = .ok (.iload_n 1, 1) := by decide +kernel
theorem dX10_fob_104 : decode cX10_fob 104 = .ok (.iaload, 1) := by decide +kernel
theorem dX10_fob_105 : decode cX10_fob 105 = .ok (.ireturn, 1) := by decide +kernel
theorem dX10_fob_106 : decode cX10_fob 106 = .ok (.aload_n 0, 1) := by decide +kernel
theorem dX10_fob_107 : decode cX10_fob 107 = .ok (.getfield 35, 3) := by decide +kernel
theorem dX10_fob_110 : decode cX10_fob 110 = .ok (.getfield 177, 3) := by decide +kernel
theorem dX10_fob_113 : decode cX10_fob 113 = .ok (.iload_n 1, 1) := by decide +kernel
theorem dX10_fob_114 : decode cX10_fob 114 = .ok (.iaload, 1) := by decide +kernel
theorem dX10_fob_115 : decode cX10_fob 115 = .ok (.ireturn, 1) := by decide +kernel
theorem dX10_fob_116 : decode cX10_fob 116 = .ok (.aload_n 0, 1) := by decide +kernel
theorem dX10_fob_117 : decode cX10_fob 117 = .ok (.iload_n 1, 1) := by decide +kernel
theorem dX10_fob_118 : decode cX10_fob 118 = .ok (.invokevirtual 180, 3) := by decide +kernel
theorem dX10_fob_121 : decode cX10_fob 121 = .ok (.ireturn, 1) := by decide +kernel
theorem dX10_fob_122 : decode cX10_fob 122 = .ok (.ldc 94, 2) := by decide +kernel
theorem dX10_fob_124 : decode cX10_fob 124 = .ok (.ireturn, 1) := by decide +kernel
theorem dX10_gate_0 : decode cX10_gate 0 = .ok (.aload_n 0, 1) := by decide +kernel
theorem dX10_gate_1 : decode cX10_gate 1 = .ok (.getfield 26, 3) := by decide +kernel
theorem dX10_gate_4 : decode cX10_gate 4 = .ok (.iload_n 1, 1) := by decide +kernel
theorem dX10_gate_5 : decode cX10_gate 5 = .ok (.invokevirtual 184, 3) := by decide +kernel
theorem dX10_gate_8 : decode cX10_gate 8 = .ok (.ifCond .ne 6, 3) := by decide +kernel
theorem dX10_gate_11 : decode cX10_gate 11 = .ok (.ldc 160, 2) := by decide +kernel
theorem dX10_gate_13 : decode cX10_gate 13 = .ok (.ireturn, 1) := by decide +kernel
theorem dX10_gate_14 : decode cX10_gate 14 = .ok (.iload_n 2, 1) := by decide +kernel
theorem dX10_gate_15 : decode cX10_gate 15 = .ok (.tableswitch 107 0 6 #[41, 51, 61, 71, 81, 91, 101], 41) := by decide +kernel
theorem dX10_gate_56 : decode cX10_gate 56 = .ok (.aload_n 0, 1) := by decide +kernel
theorem dX10_gate_57 : decode cX10_gate 57 = .ok (.getfield 26, 3) := by decide +kernel
theorem dX10_gate_60 : decode cX10_gate 60 = .ok (.getfield 187, 3) := by decide +kernel
theorem dX10_gate_63 : decode cX10_gate 63 = .ok (.iload_n 1, 1) := by decide +kernel
theorem dX10_gate_64 : decode cX10_gate 64 = .ok (.iaload, 1) := by decide +kernel
theorem dX10_gate_65 : decode cX10_gate 65 = .ok (.ireturn, 1) := by decide +kernel
theorem dX10_gate_66 : decode cX10_gate 66 = .ok (.aload_n 0, 1) := by decide +kernel
theorem dX10_gate_67 : decode cX10_gate 67 = .ok (.getfield 26, 3) := by decide +kernel
theorem dX10_gate_70 : decode cX10_gate 70 = .ok (.getfield 190, 3) := by decide +kernel
theorem dX10_gate_73 : decode cX10_gate 73 = .ok (.iload_n 1, 1) := by decide +kernel
theorem dX10_gate_74 : decode cX10_gate 74 = .ok (.iaload, 1) := by decide +kernel
theorem dX10_gate_75 : decode cX10_gate 75 = .ok (.ireturn, 1) := by decide +kernel
theorem dX10_gate_76 : decode cX10_gate 76 = .ok (.aload_n 0, 1) := by decide +kernel
theorem dX10_gate_77 : decode cX10_gate 77 = .ok (.getfield 26, 3) := by decide +kernel
theorem dX10_gate_80 : decode cX10_gate 80 = .ok (.getfield 193, 3) := by decide +kernel
theorem dX10_gate_83 : decode cX10_gate 83 = .ok (.iload_n 1, 1) := by decide +kernel
theorem dX10_gate_84 : decode cX10_gate 84 = .ok (.iaload, 1) := by decide +kernel
theorem dX10_gate_85 : decode cX10_gate 85 = .ok (.ireturn, 1) := by decide +kernel
theorem dX10_gate_86 : decode cX10_gate 86 = .ok (.aload_n 0, 1) := by decide +kernel
theorem dX10_gate_87 : decode cX10_gate 87 = .ok (.getfield 35, 3) := by decide +kernel
theorem dX10_gate_90 : decode cX10_gate 90 = .ok (.getfield 196, 3) := by decide +kernel
theorem dX10_gate_93 : decode cX10_gate 93 = .ok (.iload_n 1, 1) := by decide +kernel
theorem dX10_gate_94 : decode cX10_gate 94 = .ok (.iaload, 1) := by decide +kernel
theorem dX10_gate_95 : decode cX10_gate 95 = .ok (.ireturn, 1) := by decide +kernel
theorem dX10_gate_96 : decode cX10_gate 96 = .ok (.aload_n 0, 1) := by decide +kernel
theorem dX10_gate_97 : decode cX10_gate 97 = .ok (.getfield 35, 3) := by decide +kernel
theorem dX10_gate_100 : decode cX10_gate 100 = .ok (.getfield 199, 3) := by decide +kernel
theorem dX10_gate_103 : decode cX10_gate 103 = .ok (.iload_n 1, 1) := by decide +kernel
theorem dX10_gate_104 : decode cX10_gate 104 = .ok (.iaload, 1) := by decide +kernel
theorem dX10_gate_105 : decode cX10_gate 105 = .ok (.ireturn, 1) := by decide +kernel
theorem dX10_gate_106 : decode cX10_gate 106 = .ok (.aload_n 0, 1) := by decide +kernel
theorem dX10_gate_107 : decode cX10_gate 107 = .ok (.getfield 35, 3) := by decide +kernel
theorem dX10_gate_110 : decode cX10_gate 110 = .ok (.getfield 202, 3) := by decide +kernel
theorem dX10_gate_113 : decode cX10_gate 113 = .ok (.iload_n 1, 1) := by decide +kernel
theorem dX10_gate_114 : decode cX10_gate 114 = .ok (.iaload, 1) := by decide +kernel
theorem dX10_gate_115 : decode cX10_gate 115 = .ok (.ireturn, 1) := by decide +kernel
theorem dX10_gate_116 : decode cX10_gate 116 = .ok (.aload_n 0, 1) := by decide +kernel
theorem dX10_gate_117 : decode cX10_gate 117 = .ok (.iload_n 1, 1) := by decide +kernel
theorem dX10_gate_118 : decode cX10_gate 118 = .ok (.invokevirtual 205, 3) := by decide +kernel
theorem dX10_gate_121 : decode cX10_gate 121 = .ok (.ireturn, 1) := by decide +kernel
theorem dX10_gate_122 : decode cX10_gate 122 = .ok (.ldc 94, 2) := by decide +kernel
theorem dX10_gate_124 : decode cX10_gate 124 = .ok (.ireturn, 1) := by decide +kernel
theorem dX10_last_0 : decode cX10_last 0 = .ok (.aload_n 0, 1) := by decide +kernel
theorem dX10_last_1 : decode cX10_last 1 = .ok (.iload_n 1, 1) := by decide +kernel
theorem dX10_last_2 : decode cX10_last 2 = .ok (.iload_n 2, 1) := by decide +kernel
theorem dX10_last_3 : decode cX10_last 3 = .ok (.invokevirtual 208, 3) := by decide +kernel
theorem dX10_last_6 : decode cX10_last 6 = .ok (.ifCond .eq 15, 3) := by decide +kernel
theorem dX10_last_9 : decode cX10_last 9 = .ok (.aload_n 0, 1) := by decide +kernel
theorem dX10_last_10 : decode cX10_last 10 = .ok (.getfield 35, 3) := by decide +kernel
theorem dX10_last_13 : decode cX10_last 13 = .ok (.iload_n 1, 1) := by decide +kernel
theorem dX10_last_14 : decode cX10_last 14 = .ok (.iload_n 2, 1) := by decide +kernel
theorem dX10_last_15 : decode cX10_last 15 = .ok (.invokevirtual 212, 3) := by decide +kernel
theorem dX10_last_18 : decode cX10_last 18 = .ok (.goto 5, 3) := by decide +kernel
theorem dX10_last_21 : decode cX10_last 21 = .ok (.ldc 160, 2) := by decide +kernel
theorem dX10_last_23 : decode cX10_last 23 = .ok (.ireturn, 1) := by decide +kernel
theorem dX10_kept_0 : decode cX10_kept 0 = .ok (.aload_n 0, 1) := by decide +kernel
theorem dX10_kept_1 : decode cX10_kept 1 = .ok (.getfield 35, 3) := by decide +kernel
theorem dX10_kept_4 : decode cX10_kept 4 = .ok (.iload_n 1, 1) := by decide +kernel
theorem dX10_kept_5 : decode cX10_kept 5 = .ok (.invokevirtual 216, 3) := by decide +kernel
theorem dX10_kept_8 : decode cX10_kept 8 = .ok (.ifCond .eq 15, 3) := by decide +kernel
theorem dX10_kept_11 : decode cX10_kept 11 = .ok (.aload_n 0, 1) := by decide +kernel
theorem dX10_kept_12 : decode cX10_kept 12 = .ok (.getfield 35, 3) := by decide +kernel
theorem dX10_kept_15 : decode cX10_kept 15 = .ok (.getfield 219, 3) := by decide +kernel
theorem dX10_kept_18 : decode cX10_kept 18 = .ok (.iload_n 1, 1) := by decide +kernel
theorem dX10_kept_19 : decode cX10_kept 19 = .ok (.iaload, 1) := by decide +kernel
theorem dX10_kept_20 : decode cX10_kept 20 = .ok (.goto 4, 3) := by decide +kernel
theorem dX10_kept_23 : decode cX10_kept 23 = .ok (.iconst (-1), 1) := by decide +kernel
theorem dX10_kept_24 : decode cX10_kept 24 = .ok (.ireturn, 1) := by decide +kernel
theorem dX10_code_0 : decode cX10_code 0 = .ok (.iload_n 1, 1) := by decide +kernel
theorem dX10_code_1 : decode cX10_code 1 = .ok (.ifCond .lt 21, 3) := by decide +kernel
theorem dX10_code_4 : decode cX10_code 4 = .ok (.iload_n 1, 1) := by decide +kernel
theorem dX10_code_5 : decode cX10_code 5 = .ok (.sipush 256, 3) := by decide +kernel
theorem dX10_code_8 : decode cX10_code 8 = .ok (.if_icmp .ge 14, 3) := by decide +kernel
theorem dX10_code_11 : decode cX10_code 11 = .ok (.iload_n 2, 1) := by decide +kernel
theorem dX10_code_12 : decode cX10_code 12 = .ok (.ifCond .lt 10, 3) := by decide +kernel
theorem dX10_code_15 : decode cX10_code 15 = .ok (.iload_n 2, 1) := by decide +kernel
theorem dX10_code_16 : decode cX10_code 16 = .ok (.sipush 10000, 3) := by decide +kernel
theorem dX10_code_19 : decode cX10_code 19 = .ok (.if_icmp .lt 6, 3) := by decide +kernel
theorem dX10_code_22 : decode cX10_code 22 = .ok (.ldc 94, 2) := by decide +kernel
theorem dX10_code_24 : decode cX10_code 24 = .ok (.ireturn, 1) := by decide +kernel
theorem dX10_code_25 : decode cX10_code 25 = .ok (.iload_n 1, 1) := by decide +kernel
theorem dX10_code_26 : decode cX10_code 26 = .ok (.iload_n 2, 1) := by decide +kernel
theorem dX10_code_27 : decode cX10_code 27 = .ok (.invokestatic 222, 3) := by decide +kernel
theorem dX10_code_30 : decode cX10_code 30 = .ok (.ireturn, 1) := by decide +kernel
theorem dX10_press_0 : decode cX10_press 0 = .ok (.aload_n 0, 1) := by decide +kernel
theorem dX10_press_1 : decode cX10_press 1 = .ok (.getfield 26, 3) := by decide +kernel
theorem dX10_press_4 : decode cX10_press 4 = .ok (.iload_n 1, 1) := by decide +kernel
theorem dX10_press_5 : decode cX10_press 5 = .ok (.invokevirtual 157, 3) := by decide +kernel
theorem dX10_press_8 : decode cX10_press 8 = .ok (.ifCond .ne 6, 3) := by decide +kernel
theorem dX10_press_11 : decode cX10_press 11 = .ok (.ldc 160, 2) := by decide +kernel
theorem dX10_press_13 : decode cX10_press 13 = .ok (.ireturn, 1) := by decide +kernel
theorem dX10_press_14 : decode cX10_press 14 = .ok (.aload_n 0, 1) := by decide +kernel
theorem dX10_press_15 : decode cX10_press 15 = .ok (.getfield 35, 3) := by decide +kernel
theorem dX10_press_18 : decode cX10_press 18 = .ok (.getfield 177, 3) := by decide +kernel
theorem dX10_press_21 : decode cX10_press 21 = .ok (.iload_n 1, 1) := by decide +kernel
theorem dX10_press_22 : decode cX10_press 22 = .ok (.iaload, 1) := by decide +kernel
theorem dX10_press_23 : decode cX10_press 23 = .ok (.ifCond .gt 6, 3) := by decide +kernel
theorem dX10_press_26 : decode cX10_press 26 = .ok (.ldc 225, 2) := by decide +kernel
theorem dX10_press_28 : decode cX10_press 28 = .ok (.ireturn, 1) := by decide +kernel
theorem dX10_press_29 : decode cX10_press 29 = .ok (.aload_n 0, 1) := by decide +kernel
theorem dX10_press_30 : decode cX10_press 30 = .ok (.getfield 45, 3) := by decide +kernel
theorem dX10_press_33 : decode cX10_press 33 = .ok (.aload_n 0, 1) := by decide +kernel
theorem dX10_press_34 : decode cX10_press 34 = .ok (.getfield 35, 3) := by decide +kernel
theorem dX10_press_37 : decode cX10_press 37 = .ok (.invokevirtual 226, 3) := by decide +kernel
theorem dX10_press_40 : decode cX10_press 40 = .ok (.aload_n 0, 1) := by decide +kernel
theorem dX10_press_41 : decode cX10_press 41 = .ok (.getfield 35, 3) := by decide +kernel
theorem dX10_press_44 : decode cX10_press 44 = .ok (.iload_n 1, 1) := by decide +kernel
theorem dX10_press_45 : decode cX10_press 45 = .ok (.aload_n 0, 1) := by decide +kernel
theorem dX10_press_46 : decode cX10_press 46 = .ok (.getfield 35, 3) := by decide +kernel
theorem dX10_press_49 : decode cX10_press 49 = .ok (.getfield 165, 3) := by decide +kernel
theorem dX10_press_52 : decode cX10_press 52 = .ok (.iload_n 1, 1) := by decide +kernel
theorem dX10_press_53 : decode cX10_press 53 = .ok (.iaload, 1) := by decide +kernel
theorem dX10_press_54 : decode cX10_press 54 = .ok (.invokevirtual 230, 3) := by decide +kernel
theorem dX10_press_57 : decode cX10_press 57 = .ok (.ireturn, 1) := by decide +kernel
theorem dX10_step_0 : decode cX10_step 0 = .ok (.aload_n 0, 1) := by decide +kernel
theorem dX10_step_1 : decode cX10_step 1 = .ok (.getfield 26, 3) := by decide +kernel
theorem dX10_step_4 : decode cX10_step 4 = .ok (.iload_n 1, 1) := by decide +kernel
theorem dX10_step_5 : decode cX10_step 5 = .ok (.invokevirtual 157, 3) := by decide +kernel
theorem dX10_step_8 : decode cX10_step 8 = .ok (.ifCond .ne 6, 3) := by decide +kernel
theorem dX10_step_11 : decode cX10_step 11 = .ok (.ldc 160, 2) := by decide +kernel
theorem dX10_step_13 : decode cX10_step 13 = .ok (.ireturn, 1) := by decide +kernel
theorem dX10_step_14 : decode cX10_step 14 = .ok (.iload_n 2, 1) := by decide +kernel
theorem dX10_step_15 : decode cX10_step 15 = .ok (.invokestatic 233, 3) := by decide +kernel
theorem dX10_step_18 : decode cX10_step 18 = .ok (.ifCond .ne 6, 3) := by decide +kernel
theorem dX10_step_21 : decode cX10_step 21 = .ok (.ldc 94, 2) := by decide +kernel
theorem dX10_step_23 : decode cX10_step 23 = .ok (.ireturn, 1) := by decide +kernel
theorem dX10_step_24 : decode cX10_step 24 = .ok (.aload_n 0, 1) := by decide +kernel
theorem dX10_step_25 : decode cX10_step 25 = .ok (.getfield 35, 3) := by decide +kernel
theorem dX10_step_28 : decode cX10_step 28 = .ok (.getfield 165, 3) := by decide +kernel
theorem dX10_step_31 : decode cX10_step 31 = .ok (.iload_n 1, 1) := by decide +kernel
theorem dX10_step_32 : decode cX10_step 32 = .ok (.iaload, 1) := by decide +kernel
theorem dX10_step_33 : decode cX10_step 33 = .ok (.istore_n 3, 1) := by decide +kernel
theorem dX10_step_34 : decode cX10_step 34 = .ok (.iload_n 3, 1) := by decide +kernel
theorem dX10_step_35 : decode cX10_step 35 = .ok (.iload_n 2, 1) := by decide +kernel
theorem dX10_step_36 : decode cX10_step 36 = .ok (.if_icmp .ne 6, 3) := by decide +kernel
theorem dX10_step_39 : decode cX10_step 39 = .ok (.ldc 225, 2) := by decide +kernel
theorem dX10_step_41 : decode cX10_step 41 = .ok (.ireturn, 1) := by decide +kernel
theorem dX10_step_42 : decode cX10_step 42 = .ok (.aload_n 0, 1) := by decide +kernel
theorem dX10_step_43 : decode cX10_step 43 = .ok (.getfield 45, 3) := by decide +kernel
theorem dX10_step_46 : decode cX10_step 46 = .ok (.aload_n 0, 1) := by decide +kernel
theorem dX10_step_47 : decode cX10_step 47 = .ok (.getfield 35, 3) := by decide +kernel
theorem dX10_step_50 : decode cX10_step 50 = .ok (.invokevirtual 226, 3) := by decide +kernel
theorem dX10_step_53 : decode cX10_step 53 = .ok (.aload_n 0, 1) := by decide +kernel
theorem dX10_step_54 : decode cX10_step 54 = .ok (.getfield 35, 3) := by decide +kernel
theorem dX10_step_57 : decode cX10_step 57 = .ok (.getfield 165, 3) := by decide +kernel
theorem dX10_step_60 : decode cX10_step 60 = .ok (.iload_n 1, 1) := by decide +kernel
theorem dX10_step_61 : decode cX10_step 61 = .ok (.iload_n 2, 1) := by decide +kernel
theorem dX10_step_62 : decode cX10_step 62 = .ok (.iastore, 1) := by decide +kernel
theorem dX10_step_63 : decode cX10_step 63 = .ok (.iload_n 3, 1) := by decide +kernel
theorem dX10_step_64 : decode cX10_step 64 = .ok (.ireturn, 1) := by decide +kernel
theorem dX10_earTo_0 : decode cX10_earTo 0 = .ok (.iload_n 1, 1) := by decide +kernel
theorem dX10_earTo_1 : decode cX10_earTo 1 = .ok (.invokestatic 233, 3) := by decide +kernel
theorem dX10_earTo_4 : decode cX10_earTo 4 = .ok (.ifCond .ne 6, 3) := by decide +kernel
theorem dX10_earTo_7 : decode cX10_earTo 7 = .ok (.ldc 94, 2) := by decide +kernel
theorem dX10_earTo_9 : decode cX10_earTo 9 = .ok (.ireturn, 1) := by decide +kernel
theorem dX10_earTo_10 : decode cX10_earTo 10 = .ok (.aload_n 0, 1) := by decide +kernel
theorem dX10_earTo_11 : decode cX10_earTo 11 = .ok (.getfield 35, 3) := by decide +kernel
theorem dX10_earTo_14 : decode cX10_earTo 14 = .ok (.getfield 136, 3) := by decide +kernel
theorem dX10_earTo_17 : decode cX10_earTo 17 = .ok (.istore_n 2, 1) := by decide +kernel
theorem dX10_earTo_18 : decode cX10_earTo 18 = .ok (.aload_n 0, 1) := by decide +kernel
theorem dX10_earTo_19 : decode cX10_earTo 19 = .ok (.getfield 26, 3) := by decide +kernel
theorem dX10_earTo_22 : decode cX10_earTo 22 = .ok (.getfield 126, 3) := by decide +kernel
theorem dX10_earTo_25 : decode cX10_earTo 25 = .ok (.ifCond .eq 8, 3) := by decide +kernel
theorem dX10_earTo_28 : decode cX10_earTo 28 = .ok (.iload_n 2, 1) := by decide +kernel
theorem dX10_earTo_29 : decode cX10_earTo 29 = .ok (.iload_n 1, 1) := by decide +kernel
theorem dX10_earTo_30 : decode cX10_earTo 30 = .ok (.if_icmp .ne 6, 3) := by decide +kernel
theorem dX10_earTo_33 : decode cX10_earTo 33 = .ok (.ldc 225, 2) := by decide +kernel
theorem dX10_earTo_35 : decode cX10_earTo 35 = .ok (.ireturn, 1) := by decide +kernel
theorem dX10_earTo_36 : decode cX10_earTo 36 = .ok (.aload_n 0, 1) := by decide +kernel
theorem dX10_earTo_37 : decode cX10_earTo 37 = .ok (.getfield 45, 3) := by decide +kernel
theorem dX10_earTo_40 : decode cX10_earTo 40 = .ok (.aload_n 0, 1) := by decide +kernel
theorem dX10_earTo_41 : decode cX10_earTo 41 = .ok (.getfield 35, 3) := by decide +kernel
theorem dX10_earTo_44 : decode cX10_earTo 44 = .ok (.invokevirtual 226, 3) := by decide +kernel
theorem dX10_earTo_47 : decode cX10_earTo 47 = .ok (.aload_n 0, 1) := by decide +kernel
theorem dX10_earTo_48 : decode cX10_earTo 48 = .ok (.getfield 35, 3) := by decide +kernel
theorem dX10_earTo_51 : decode cX10_earTo 51 = .ok (.iload_n 1, 1) := by decide +kernel
theorem dX10_earTo_52 : decode cX10_earTo 52 = .ok (.putfield 136, 3) := by decide +kernel
theorem dX10_earTo_55 : decode cX10_earTo 55 = .ok (.iload_n 2, 1) := by decide +kernel
theorem dX10_earTo_56 : decode cX10_earTo 56 = .ok (.ireturn, 1) := by decide +kernel
theorem dX10_noise_0 : decode cX10_noise 0 = .ok (.aload_n 0, 1) := by decide +kernel
theorem dX10_noise_1 : decode cX10_noise 1 = .ok (.getfield 26, 3) := by decide +kernel
theorem dX10_noise_4 : decode cX10_noise 4 = .ok (.iload_n 1, 1) := by decide +kernel
theorem dX10_noise_5 : decode cX10_noise 5 = .ok (.invokevirtual 184, 3) := by decide +kernel
theorem dX10_noise_8 : decode cX10_noise 8 = .ok (.ifCond .ne 6, 3) := by decide +kernel
theorem dX10_noise_11 : decode cX10_noise 11 = .ok (.ldc 160, 2) := by decide +kernel
theorem dX10_noise_13 : decode cX10_noise 13 = .ok (.ireturn, 1) := by decide +kernel
theorem dX10_noise_14 : decode cX10_noise 14 = .ok (.aload_n 0, 1) := by decide +kernel
theorem dX10_noise_15 : decode cX10_noise 15 = .ok (.getfield 35, 3) := by decide +kernel
theorem dX10_noise_18 : decode cX10_noise 18 = .ok (.iload_n 1, 1) := by decide +kernel
theorem dX10_noise_19 : decode cX10_noise 19 = .ok (.invokevirtual 236, 3) := by decide +kernel
theorem dX10_noise_22 : decode cX10_noise 22 = .ok (.iload_n 2, 1) := by decide +kernel
theorem dX10_noise_23 : decode cX10_noise 23 = .ok (.if_icmp .ne 6, 3) := by decide +kernel
theorem dX10_noise_26 : decode cX10_noise 26 = .ok (.ldc 225, 2) := by decide +kernel
theorem dX10_noise_28 : decode cX10_noise 28 = .ok (.ireturn, 1) := by decide +kernel
theorem dX10_noise_29 : decode cX10_noise 29 = .ok (.aload_n 0, 1) := by decide +kernel
theorem dX10_noise_30 : decode cX10_noise 30 = .ok (.getfield 45, 3) := by decide +kernel
theorem dX10_noise_33 : decode cX10_noise 33 = .ok (.aload_n 0, 1) := by decide +kernel
theorem dX10_noise_34 : decode cX10_noise 34 = .ok (.getfield 35, 3) := by decide +kernel
theorem dX10_noise_37 : decode cX10_noise 37 = .ok (.invokevirtual 226, 3) := by decide +kernel
theorem dX10_noise_40 : decode cX10_noise 40 = .ok (.aload_n 0, 1) := by decide +kernel
theorem dX10_noise_41 : decode cX10_noise 41 = .ok (.getfield 35, 3) := by decide +kernel
theorem dX10_noise_44 : decode cX10_noise 44 = .ok (.iload_n 1, 1) := by decide +kernel
theorem dX10_noise_45 : decode cX10_noise 45 = .ok (.invokevirtual 239, 3) := by decide +kernel
theorem dX10_noise_48 : decode cX10_noise 48 = .ok (.aload_n 0, 1) := by decide +kernel
theorem dX10_noise_49 : decode cX10_noise 49 = .ok (.getfield 35, 3) := by decide +kernel
theorem dX10_noise_52 : decode cX10_noise 52 = .ok (.getfield 145, 3) := by decide +kernel
theorem dX10_noise_55 : decode cX10_noise 55 = .ok (.ireturn, 1) := by decide +kernel
theorem dX10_teach_0 : decode cX10_teach 0 = .ok (.aload_n 0, 1) := by decide +kernel
theorem dX10_teach_1 : decode cX10_teach 1 = .ok (.iload_n 1, 1) := by decide +kernel
theorem dX10_teach_2 : decode cX10_teach 2 = .ok (.iload_n 2, 1) := by decide +kernel
theorem dX10_teach_3 : decode cX10_teach 3 = .ok (.invokevirtual 208, 3) := by decide +kernel
theorem dX10_teach_6 : decode cX10_teach 6 = .ok (.ifCond .ne 6, 3) := by decide +kernel
theorem dX10_teach_9 : decode cX10_teach 9 = .ok (.ldc 160, 2) := by decide +kernel
theorem dX10_teach_11 : decode cX10_teach 11 = .ok (.ireturn, 1) := by decide +kernel
theorem dX10_teach_12 : decode cX10_teach 12 = .ok (.aload_n 0, 1) := by decide +kernel
theorem dX10_teach_13 : decode cX10_teach 13 = .ok (.getfield 45, 3) := by decide +kernel
theorem dX10_teach_16 : decode cX10_teach 16 = .ok (.aload_n 0, 1) := by decide +kernel
theorem dX10_teach_17 : decode cX10_teach 17 = .ok (.getfield 35, 3) := by decide +kernel
theorem dX10_teach_20 : decode cX10_teach 20 = .ok (.invokevirtual 226, 3) := by decide +kernel
theorem dX10_teach_23 : decode cX10_teach 23 = .ok (.aload_n 0, 1) := by decide +kernel
theorem dX10_teach_24 : decode cX10_teach 24 = .ok (.getfield 35, 3) := by decide +kernel
theorem dX10_teach_27 : decode cX10_teach 27 = .ok (.iload_n 1, 1) := by decide +kernel
theorem dX10_teach_28 : decode cX10_teach 28 = .ok (.iload_n 2, 1) := by decide +kernel
theorem dX10_teach_29 : decode cX10_teach 29 = .ok (.invokevirtual 243, 3) := by decide +kernel
theorem dX10_teach_32 : decode cX10_teach 32 = .ok (.aload_n 0, 1) := by decide +kernel
theorem dX10_teach_33 : decode cX10_teach 33 = .ok (.getfield 35, 3) := by decide +kernel
theorem dX10_teach_36 : decode cX10_teach 36 = .ok (.iload_n 1, 1) := by decide +kernel
theorem dX10_teach_37 : decode cX10_teach 37 = .ok (.iload_n 2, 1) := by decide +kernel
theorem dX10_teach_38 : decode cX10_teach 38 = .ok (.invokevirtual 212, 3) := by decide +kernel
theorem dX10_teach_41 : decode cX10_teach 41 = .ok (.ireturn, 1) := by decide +kernel
theorem dX10_again_0 : decode cX10_again 0 = .ok (.aload_n 0, 1) := by decide +kernel
theorem dX10_again_1 : decode cX10_again 1 = .ok (.getfield 35, 3) := by decide +kernel
theorem dX10_again_4 : decode cX10_again 4 = .ok (.iload_n 1, 1) := by decide +kernel
theorem dX10_again_5 : decode cX10_again 5 = .ok (.invokevirtual 216, 3) := by decide +kernel
theorem dX10_again_8 : decode cX10_again 8 = .ok (.ifCond .ne 6, 3) := by decide +kernel
theorem dX10_again_11 : decode cX10_again 11 = .ok (.ldc 160, 2) := by decide +kernel
theorem dX10_again_13 : decode cX10_again 13 = .ok (.ireturn, 1) := by decide +kernel
theorem dX10_again_14 : decode cX10_again 14 = .ok (.aload_n 0, 1) := by decide +kernel
theorem dX10_again_15 : decode cX10_again 15 = .ok (.getfield 45, 3) := by decide +kernel
theorem dX10_again_18 : decode cX10_again 18 = .ok (.aload_n 0, 1) := by decide +kernel
theorem dX10_again_19 : decode cX10_again 19 = .ok (.getfield 35, 3) := by decide +kernel
theorem dX10_again_22 : decode cX10_again 22 = .ok (.invokevirtual 226, 3) := by decide +kernel
theorem dX10_again_25 : decode cX10_again 25 = .ok (.aload_n 0, 1) := by decide +kernel
theorem dX10_again_26 : decode cX10_again 26 = .ok (.getfield 35, 3) := by decide +kernel
theorem dX10_again_29 : decode cX10_again 29 = .ok (.iload_n 1, 1) := by decide +kernel
theorem dX10_again_30 : decode cX10_again 30 = .ok (.invokevirtual 247, 3) := by decide +kernel
theorem dX10_again_33 : decode cX10_again 33 = .ok (.ireturn, 1) := by decide +kernel
theorem dX10_fill_0 : decode cX10_fill 0 = .ok (.aload_n 0, 1) := by decide +kernel
theorem dX10_fill_1 : decode cX10_fill 1 = .ok (.getfield 26, 3) := by decide +kernel
theorem dX10_fill_4 : decode cX10_fill 4 = .ok (.iload_n 1, 1) := by decide +kernel
theorem dX10_fill_5 : decode cX10_fill 5 = .ok (.invokevirtual 157, 3) := by decide +kernel
theorem dX10_fill_8 : decode cX10_fill 8 = .ok (.ifCond .ne 6, 3) := by decide +kernel
theorem dX10_fill_11 : decode cX10_fill 11 = .ok (.ldc 160, 2) := by decide +kernel
theorem dX10_fill_13 : decode cX10_fill 13 = .ok (.ireturn, 1) := by decide +kernel
theorem dX10_fill_14 : decode cX10_fill 14 = .ok (.aload_n 0, 1) := by decide +kernel
theorem dX10_fill_15 : decode cX10_fill 15 = .ok (.getfield 45, 3) := by decide +kernel
theorem dX10_fill_18 : decode cX10_fill 18 = .ok (.aload_n 0, 1) := by decide +kernel
theorem dX10_fill_19 : decode cX10_fill 19 = .ok (.getfield 35, 3) := by decide +kernel
theorem dX10_fill_22 : decode cX10_fill 22 = .ok (.invokevirtual 226, 3) := by decide +kernel
theorem dX10_fill_25 : decode cX10_fill 25 = .ok (.aload_n 0, 1) := by decide +kernel
theorem dX10_fill_26 : decode cX10_fill 26 = .ok (.getfield 35, 3) := by decide +kernel
theorem dX10_fill_29 : decode cX10_fill 29 = .ok (.getfield 177, 3) := by decide +kernel
theorem dX10_fill_32 : decode cX10_fill 32 = .ok (.iload_n 1, 1) := by decide +kernel
theorem dX10_fill_33 : decode cX10_fill 33 = .ok (.iaload, 1) := by decide +kernel
theorem dX10_fill_34 : decode cX10_fill 34 = .ok (.istore_n 2, 1) := by decide +kernel
theorem dX10_fill_35 : decode cX10_fill 35 = .ok (.aload_n 0, 1) := by decide +kernel
theorem dX10_fill_36 : decode cX10_fill 36 = .ok (.getfield 35, 3) := by decide +kernel
theorem dX10_fill_39 : decode cX10_fill 39 = .ok (.getfield 177, 3) := by decide +kernel
theorem dX10_fill_42 : decode cX10_fill 42 = .ok (.iload_n 1, 1) := by decide +kernel
theorem dX10_fill_43 : decode cX10_fill 43 = .ok (.bipush 60, 2) := by decide +kernel
theorem dX10_fill_45 : decode cX10_fill 45 = .ok (.iastore, 1) := by decide +kernel
theorem dX10_fill_46 : decode cX10_fill 46 = .ok (.iload_n 2, 1) := by decide +kernel
theorem dX10_fill_47 : decode cX10_fill 47 = .ok (.ireturn, 1) := by decide +kernel
theorem dX10_drift_0 : decode cX10_drift 0 = .ok (.iload_n 1, 1) := by decide +kernel
theorem dX10_drift_1 : decode cX10_drift 1 = .ok (.iconst 1, 1) := by decide +kernel
theorem dX10_drift_2 : decode cX10_drift 2 = .ok (.if_icmp .lt 9, 3) := by decide +kernel
theorem dX10_drift_5 : decode cX10_drift 5 = .ok (.iload_n 1, 1) := by decide +kernel
theorem dX10_drift_6 : decode cX10_drift 6 = .ok (.bipush 60, 2) := by decide +kernel
theorem dX10_drift_8 : decode cX10_drift 8 = .ok (.if_icmp .le 6, 3) := by decide +kernel
theorem dX10_drift_11 : decode cX10_drift 11 = .ok (.ldc 94, 2) := by decide +kernel
theorem dX10_drift_13 : decode cX10_drift 13 = .ok (.ireturn, 1) := by decide +kernel
theorem dX10_drift_14 : decode cX10_drift 14 = .ok (.aload_n 0, 1) := by decide +kernel
theorem dX10_drift_15 : decode cX10_drift 15 = .ok (.getfield 26, 3) := by decide +kernel
theorem dX10_drift_18 : decode cX10_drift 18 = .ok (.getfield 126, 3) := by decide +kernel
theorem dX10_drift_21 : decode cX10_drift 21 = .ok (.ifCond .ne 6, 3) := by decide +kernel
theorem dX10_drift_24 : decode cX10_drift 24 = .ok (.ldc 225, 2) := by decide +kernel
theorem dX10_drift_26 : decode cX10_drift 26 = .ok (.ireturn, 1) := by decide +kernel
theorem dX10_drift_27 : decode cX10_drift 27 = .ok (.aload_n 0, 1) := by decide +kernel
theorem dX10_drift_28 : decode cX10_drift 28 = .ok (.getfield 35, 3) := by decide +kernel
theorem dX10_drift_31 : decode cX10_drift 31 = .ok (.getfield 133, 3) := by decide +kernel
theorem dX10_drift_34 : decode cX10_drift 34 = .ok (.sipush 9000, 3) := by decide +kernel
theorem dX10_drift_37 : decode cX10_drift 37 = .ok (.if_icmp .le 6, 3) := by decide +kernel
theorem dX10_drift_40 : decode cX10_drift 40 = .ok (.ldc 102, 2) := by decide +kernel
theorem dX10_drift_42 : decode cX10_drift 42 = .ok (.ireturn, 1) := by decide +kernel
theorem dX10_drift_43 : decode cX10_drift 43 = .ok (.aload_n 0, 1) := by decide +kernel
theorem dX10_drift_44 : decode cX10_drift 44 = .ok (.getfield 45, 3) := by decide +kernel
theorem dX10_drift_47 : decode cX10_drift 47 = .ok (.aload_n 0, 1) := by decide +kernel
theorem dX10_drift_48 : decode cX10_drift 48 = .ok (.getfield 35, 3) := by decide +kernel
theorem dX10_drift_51 : decode cX10_drift 51 = .ok (.invokevirtual 226, 3) := by decide +kernel
theorem dX10_drift_54 : decode cX10_drift 54 = .ok (.iconst 0, 1) := by decide +kernel
theorem dX10_drift_55 : decode cX10_drift 55 = .ok (.istore_n 2, 1) := by decide +kernel
theorem dX10_drift_56 : decode cX10_drift 56 = .ok (.iload_n 2, 1) := by decide +kernel
theorem dX10_drift_57 : decode cX10_drift 57 = .ok (.iload_n 1, 1) := by decide +kernel
theorem dX10_drift_58 : decode cX10_drift 58 = .ok (.if_icmp .ge 13, 3) := by decide +kernel
theorem dX10_drift_61 : decode cX10_drift 61 = .ok (.aload_n 0, 1) := by decide +kernel
theorem dX10_drift_62 : decode cX10_drift 62 = .ok (.invokevirtual 250, 3) := by decide +kernel
theorem dX10_drift_65 : decode cX10_drift 65 = .ok (.iinc 2 1, 3) := by decide +kernel
theorem dX10_drift_68 : decode cX10_drift 68 = .ok (.goto (-12), 3) := by decide +kernel
theorem dX10_drift_71 : decode cX10_drift 71 = .ok (.aload_n 0, 1) := by decide +kernel
theorem dX10_drift_72 : decode cX10_drift 72 = .ok (.getfield 35, 3) := by decide +kernel
theorem dX10_drift_75 : decode cX10_drift 75 = .ok (.getfield 133, 3) := by decide +kernel
theorem dX10_drift_78 : decode cX10_drift 78 = .ok (.ireturn, 1) := by decide +kernel
theorem dX10_undo_0 : decode cX10_undo 0 = .ok (.aload_n 0, 1) := by decide +kernel
theorem dX10_undo_1 : decode cX10_undo 1 = .ok (.getfield 45, 3) := by decide +kernel
theorem dX10_undo_4 : decode cX10_undo 4 = .ok (.getfield 156, 3) := by decide +kernel
theorem dX10_undo_7 : decode cX10_undo 7 = .ok (.ifCond .ne 6, 3) := by decide +kernel
theorem dX10_undo_10 : decode cX10_undo 10 = .ok (.ldc 225, 2) := by decide +kernel
theorem dX10_undo_12 : decode cX10_undo 12 = .ok (.ireturn, 1) := by decide +kernel
theorem dX10_undo_13 : decode cX10_undo 13 = .ok (.aload_n 0, 1) := by decide +kernel
theorem dX10_undo_14 : decode cX10_undo 14 = .ok (.getfield 45, 3) := by decide +kernel
theorem dX10_undo_17 : decode cX10_undo 17 = .ok (.aload_n 0, 1) := by decide +kernel
theorem dX10_undo_18 : decode cX10_undo 18 = .ok (.getfield 35, 3) := by decide +kernel
theorem dX10_undo_21 : decode cX10_undo 21 = .ok (.invokevirtual 253, 3) := by decide +kernel
theorem dX10_undo_24 : decode cX10_undo 24 = .ok (.aload_n 0, 1) := by decide +kernel
theorem dX10_undo_25 : decode cX10_undo 25 = .ok (.getfield 45, 3) := by decide +kernel
theorem dX10_undo_28 : decode cX10_undo 28 = .ok (.getfield 156, 3) := by decide +kernel
theorem dX10_undo_31 : decode cX10_undo 31 = .ok (.ireturn, 1) := by decide +kernel
theorem dX10_wouldOpen_0 : decode cX10_wouldOpen 0 = .ok (.aload_n 0, 1) := by decide +kernel
theorem dX10_wouldOpen_1 : decode cX10_wouldOpen 1 = .ok (.getfield 26, 3) := by decide +kernel
theorem dX10_wouldOpen_4 : decode cX10_wouldOpen 4 = .ok (.iload_n 1, 1) := by decide +kernel
theorem dX10_wouldOpen_5 : decode cX10_wouldOpen 5 = .ok (.invokevirtual 157, 3) := by decide +kernel
theorem dX10_wouldOpen_8 : decode cX10_wouldOpen 8 = .ok (.ifCond .ne 6, 3) := by decide +kernel
theorem dX10_wouldOpen_11 : decode cX10_wouldOpen 11 = .ok (.ldc 160, 2) := by decide +kernel
theorem dX10_wouldOpen_13 : decode cX10_wouldOpen 13 = .ok (.ireturn, 1) := by decide +kernel
theorem dX10_wouldOpen_14 : decode cX10_wouldOpen 14 = .ok (.iload_n 2, 1) := by decide +kernel
theorem dX10_wouldOpen_15 : decode cX10_wouldOpen 15 = .ok (.iconst (-1), 1) := by decide +kernel
theorem dX10_wouldOpen_16 : decode cX10_wouldOpen 16 = .ok (.if_icmp .eq 13, 3) := by decide +kernel
theorem dX10_wouldOpen_19 : decode cX10_wouldOpen 19 = .ok (.iload_n 2, 1) := by decide +kernel
theorem dX10_wouldOpen_20 : decode cX10_wouldOpen 20 = .ok (.invokestatic 233, 3) := by decide +kernel
theorem dX10_wouldOpen_23 : decode cX10_wouldOpen 23 = .ok (.ifCond .ne 6, 3) := by decide +kernel
theorem dX10_wouldOpen_26 : decode cX10_wouldOpen 26 = .ok (.ldc 94, 2) := by decide +kernel
theorem dX10_wouldOpen_28 : decode cX10_wouldOpen 28 = .ok (.ireturn, 1) := by decide +kernel
theorem dX10_wouldOpen_29 : decode cX10_wouldOpen 29 = .ok (.aload_n 0, 1) := by decide +kernel
theorem dX10_wouldOpen_30 : decode cX10_wouldOpen 30 = .ok (.iload_n 1, 1) := by decide +kernel
theorem dX10_wouldOpen_31 : decode cX10_wouldOpen 31 = .ok (.iload_n 2, 1) := by decide +kernel
theorem dX10_wouldOpen_32 : decode cX10_wouldOpen 32 = .ok (.iconst (-1), 1) := by decide +kernel
theorem dX10_wouldOpen_33 : decode cX10_wouldOpen 33 = .ok (.if_icmp .ne 15, 3) := by decide +kernel
theorem dX10_wouldOpen_36 : decode cX10_wouldOpen 36 = .ok (.aload_n 0, 1) := by decide +kernel
theorem dX10_wouldOpen_37 : decode cX10_wouldOpen 37 = .ok (.getfield 35, 3) := by decide +kernel
theorem dX10_wouldOpen_40 : decode cX10_wouldOpen 40 = .ok (.getfield 165, 3) := by decide +kernel
theorem dX10_wouldOpen_43 : decode cX10_wouldOpen 43 = .ok (.iload_n 1, 1) := by decide +kernel
theorem dX10_wouldOpen_44 : decode cX10_wouldOpen 44 = .ok (.iaload, 1) := by decide +kernel
theorem dX10_wouldOpen_45 : decode cX10_wouldOpen 45 = .ok (.goto 4, 3) := by decide +kernel
theorem dX10_wouldOpen_48 : decode cX10_wouldOpen 48 = .ok (.iload_n 2, 1) := by decide +kernel
theorem dX10_wouldOpen_49 : decode cX10_wouldOpen 49 = .ok (.invokevirtual 256, 3) := by decide +kernel
