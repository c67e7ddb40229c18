theorem dX10_wouldOpen_52 : decode cX10_wouldOpen 52 = .ok (.ireturn, 1) := by decide +kernel
theorem dX10_ahead_0 : decode cX10_ahead 0 = .ok (.aload_n 0, 1) := by decide +kernel
theorem dX10_ahead_1 : decode cX10_ahead 1 = .ok (.iload_n 1, 1) := by decide +kernel
theorem dX10_ahead_2 : decode cX10_ahead 2 = .ok (.iload_n 2, 1) := by decide +kernel
theorem dX10_ahead_3 : decode cX10_ahead 3 = .ok (.invokevirtual 208, 3) := by decide +kernel
theorem dX10_ahead_6 : decode cX10_ahead 6 = .ok (.ifCond .ne 6, 3) := by decide +kernel
theorem dX10_ahead_9 : decode cX10_ahead 9 = .ok (.ldc 160, 2) := by decide +kernel
theorem dX10_ahead_11 : decode cX10_ahead 11 = .ok (.ireturn, 1) := by decide +kernel
theorem dX10_ahead_12 : decode cX10_ahead 12 = .ok (.aload_n 0, 1) := by decide +kernel
theorem dX10_ahead_13 : decode cX10_ahead 13 = .ok (.getfield 35, 3) := by decide +kernel
theorem dX10_ahead_16 : decode cX10_ahead 16 = .ok (.getfield 174, 3) := by decide +kernel
theorem dX10_ahead_19 : decode cX10_ahead 19 = .ok (.iload_n 2, 1) := by decide +kernel
theorem dX10_ahead_20 : decode cX10_ahead 20 = .ok (.iaload, 1) := by decide +kernel
theorem dX10_ahead_21 : decode cX10_ahead 21 = .ok (.aload_n 0, 1) := by decide +kernel
theorem dX10_ahead_22 : decode cX10_ahead 22 = .ok (.getfield 35, 3) := by decide +kernel
theorem dX10_ahead_25 : decode cX10_ahead 25 = .ok (.iload_n 1, 1) := by decide +kernel
theorem dX10_ahead_26 : decode cX10_ahead 26 = .ok (.iload_n 2, 1) := by decide +kernel
theorem dX10_ahead_27 : decode cX10_ahead 27 = .ok (.invokevirtual 212, 3) := by decide +kernel
theorem dX10_ahead_30 : decode cX10_ahead 30 = .ok (.isub, 1) := by decide +kernel
theorem dX10_ahead_31 : decode cX10_ahead 31 = .ok (.sipush 10000, 3) := by decide +kernel
theorem dX10_ahead_34 : decode cX10_ahead 34 = .ok (.invokestatic 259, 3) := by decide +kernel
theorem dX10_ahead_37 : decode cX10_ahead 37 = .ok (.ireturn, 1) := by decide +kernel
theorem dX10_locked_0 : decode cX10_locked 0 = .ok (.aload_n 0, 1) := by decide +kernel
theorem dX10_locked_1 : decode cX10_locked 1 = .ok (.iload_n 1, 1) := by decide +kernel
theorem dX10_locked_2 : decode cX10_locked 2 = .ok (.iload_n 2, 1) := by decide +kernel
theorem dX10_locked_3 : decode cX10_locked 3 = .ok (.invokevirtual 208, 3) := by decide +kernel
theorem dX10_locked_6 : decode cX10_locked 6 = .ok (.ifCond .ne 6, 3) := by decide +kernel
theorem dX10_locked_9 : decode cX10_locked 9 = .ok (.ldc 160, 2) := by decide +kernel
theorem dX10_locked_11 : decode cX10_locked 11 = .ok (.ireturn, 1) := by decide +kernel
theorem dX10_locked_12 : decode cX10_locked 12 = .ok (.iconst 0, 1) := by decide +kernel
theorem dX10_locked_13 : decode cX10_locked 13 = .ok (.istore_n 3, 1) := by decide +kernel
theorem dX10_locked_14 : decode cX10_locked 14 = .ok (.iload_n 3, 1) := by decide +kernel
theorem dX10_locked_15 : decode cX10_locked 15 = .ok (.bipush 60, 2) := by decide +kernel
theorem dX10_locked_17 : decode cX10_locked 17 = .ok (.if_icmp .gt 43, 3) := by decide +kernel
theorem dX10_locked_20 : decode cX10_locked 20 = .ok (.aload_n 0, 1) := by decide +kernel
theorem dX10_locked_21 : decode cX10_locked 21 = .ok (.getfield 39, 3) := by decide +kernel
theorem dX10_locked_24 : decode cX10_locked 24 = .ok (.aload_n 0, 1) := by decide +kernel
theorem dX10_locked_25 : decode cX10_locked 25 = .ok (.getfield 35, 3) := by decide +kernel
theorem dX10_locked_28 : decode cX10_locked 28 = .ok (.invokevirtual 264, 3) := by decide +kernel
theorem dX10_locked_31 : decode cX10_locked 31 = .ok (.aload_n 0, 1) := by decide +kernel
theorem dX10_locked_32 : decode cX10_locked 32 = .ok (.getfield 39, 3) := by decide +kernel
theorem dX10_locked_35 : decode cX10_locked 35 = .ok (.iload_n 2, 1) := by decide +kernel
theorem dX10_locked_36 : decode cX10_locked 36 = .ok (.iload_n 3, 1) := by decide +kernel
theorem dX10_locked_37 : decode cX10_locked 37 = .ok (.invokevirtual 266, 3) := by decide +kernel
theorem dX10_locked_40 : decode cX10_locked 40 = .ok (.aload_n 0, 1) := by decide +kernel
theorem dX10_locked_41 : decode cX10_locked 41 = .ok (.getfield 39, 3) := by decide +kernel
theorem dX10_locked_44 : decode cX10_locked 44 = .ok (.iload_n 1, 1) := by decide +kernel
theorem dX10_locked_45 : decode cX10_locked 45 = .ok (.iload_n 2, 1) := by decide +kernel
theorem dX10_locked_46 : decode cX10_locked 46 = .ok (.invokevirtual 269, 3) := by decide +kernel
theorem dX10_locked_49 : decode cX10_locked 49 = .ok (.ifCond .ne 5, 3) := by decide +kernel
theorem dX10_locked_52 : decode cX10_locked 52 = .ok (.iload_n 3, 1) := by decide +kernel
theorem dX10_locked_53 : decode cX10_locked 53 = .ok (.ireturn, 1) := by decide +kernel
theorem dX10_locked_54 : decode cX10_locked 54 = .ok (.iinc 3 1, 3) := by decide +kernel
theorem dX10_locked_57 : decode cX10_locked 57 = .ok (.goto (-43), 3) := by decide +kernel
theorem dX10_locked_60 : decode cX10_locked 60 = .ok (.iconst (-1), 1) := by decide +kernel
theorem dX10_locked_61 : decode cX10_locked 61 = .ok (.ireturn, 1) := by decide +kernel
theorem dX10_takes_0 : decode cX10_takes 0 = .ok (.aload_n 0, 1) := by decide +kernel
theorem dX10_takes_1 : decode cX10_takes 1 = .ok (.iload_n 1, 1) := by decide +kernel
theorem dX10_takes_2 : decode cX10_takes 2 = .ok (.iload_n 2, 1) := by decide +kernel
theorem dX10_takes_3 : decode cX10_takes 3 = .ok (.invokevirtual 208, 3) := by decide +kernel
theorem dX10_takes_6 : decode cX10_takes 6 = .ok (.ifCond .ne 6, 3) := by decide +kernel
theorem dX10_takes_9 : decode cX10_takes 9 = .ok (.ldc 160, 2) := by decide +kernel
theorem dX10_takes_11 : decode cX10_takes 11 = .ok (.ireturn, 1) := by decide +kernel
theorem dX10_takes_12 : decode cX10_takes 12 = .ok (.aload_n 0, 1) := by decide +kernel
theorem dX10_takes_13 : decode cX10_takes 13 = .ok (.getfield 39, 3) := by decide +kernel
theorem dX10_takes_16 : decode cX10_takes 16 = .ok (.aload_n 0, 1) := by decide +kernel
theorem dX10_takes_17 : decode cX10_takes 17 = .ok (.getfield 35, 3) := by decide +kernel
theorem dX10_takes_20 : decode cX10_takes 20 = .ok (.invokevirtual 264, 3) := by decide +kernel
theorem dX10_takes_23 : decode cX10_takes 23 = .ok (.iconst 1, 1) := by decide +kernel
theorem dX10_takes_24 : decode cX10_takes 24 = .ok (.istore_n 3, 1) := by decide +kernel
theorem dX10_takes_25 : decode cX10_takes 25 = .ok (.iload_n 3, 1) := by decide +kernel
theorem dX10_takes_26 : decode cX10_takes 26 = .ok (.bipush 10, 2) := by decide +kernel
theorem dX10_takes_28 : decode cX10_takes 28 = .ok (.if_icmp .gt 23, 3) := by decide +kernel
theorem dX10_takes_31 : decode cX10_takes 31 = .ok (.aload_n 0, 1) := by decide +kernel
theorem dX10_takes_32 : decode cX10_takes 32 = .ok (.getfield 39, 3) := by decide +kernel
theorem dX10_takes_35 : decode cX10_takes 35 = .ok (.iload_n 1, 1) := by decide +kernel
theorem dX10_takes_36 : decode cX10_takes 36 = .ok (.iload_n 2, 1) := by decide +kernel
theorem dX10_takes_37 : decode cX10_takes 37 = .ok (.invokevirtual 269, 3) := by decide +kernel
theorem dX10_takes_40 : decode cX10_takes 40 = .ok (.ifCond .eq 5, 3) := by decide +kernel
theorem dX10_takes_43 : decode cX10_takes 43 = .ok (.iload_n 3, 1) := by decide +kernel
theorem dX10_takes_44 : decode cX10_takes 44 = .ok (.ireturn, 1) := by decide +kernel
theorem dX10_takes_45 : decode cX10_takes 45 = .ok (.iinc 3 1, 3) := by decide +kernel
theorem dX10_takes_48 : decode cX10_takes 48 = .ok (.goto (-23), 3) := by decide +kernel
theorem dX10_takes_51 : decode cX10_takes 51 = .ok (.iconst (-1), 1) := by decide +kernel
theorem dX10_takes_52 : decode cX10_takes 52 = .ok (.ireturn, 1) := by decide +kernel
theorem dX10_row_0 : decode cX10_row 0 = .ok (.aload_n 0, 1) := by decide +kernel
theorem dX10_row_1 : decode cX10_row 1 = .ok (.getfield 59, 3) := by decide +kernel
theorem dX10_row_4 : decode cX10_row 4 = .ok (.aload_n 0, 1) := by decide +kernel
theorem dX10_row_5 : decode cX10_row 5 = .ok (.getfield 35, 3) := by decide +kernel
theorem dX10_row_8 : decode cX10_row 8 = .ok (.invokevirtual 272, 3) := by decide +kernel
theorem dX10_row_11 : decode cX10_row 11 = .ok (.istore_n 2, 1) := by decide +kernel
theorem dX10_row_12 : decode cX10_row 12 = .ok (.iload_n 1, 1) := by decide +kernel
theorem dX10_row_13 : decode cX10_row 13 = .ok (.iconst (-1), 1) := by decide +kernel
theorem dX10_row_14 : decode cX10_row 14 = .ok (.if_icmp .ne 5, 3) := by decide +kernel
theorem dX10_row_17 : decode cX10_row 17 = .ok (.iload_n 2, 1) := by decide +kernel
theorem dX10_row_18 : decode cX10_row 18 = .ok (.ireturn, 1) := by decide +kernel
theorem dX10_row_19 : decode cX10_row 19 = .ok (.iload_n 1, 1) := by decide +kernel
theorem dX10_row_20 : decode cX10_row 20 = .ok (.ifCond .lt 20, 3) := by decide +kernel
theorem dX10_row_23 : decode cX10_row 23 = .ok (.iload_n 1, 1) := by decide +kernel
theorem dX10_row_24 : decode cX10_row 24 = .ok (.iload_n 2, 1) := by decide +kernel
theorem dX10_row_25 : decode cX10_row 25 = .ok (.if_icmp .ge 15, 3) := by decide +kernel
theorem dX10_row_28 : decode cX10_row 28 = .ok (.aload_n 0, 1) := by decide +kernel
theorem dX10_row_29 : decode cX10_row 29 = .ok (.getfield 59, 3) := by decide +kernel
theorem dX10_row_32 : decode cX10_row 32 = .ok (.getfield 276, 3) := by decide +kernel
theorem dX10_row_35 : decode cX10_row 35 = .ok (.iload_n 1, 1) := by decide +kernel
theorem dX10_row_36 : decode cX10_row 36 = .ok (.iaload, 1) := by decide +kernel
theorem dX10_row_37 : decode cX10_row 37 = .ok (.goto 4, 3) := by decide +kernel
theorem dX10_row_40 : decode cX10_row 40 = .ok (.iconst (-1), 1) := by decide +kernel
theorem dX10_row_41 : decode cX10_row 41 = .ok (.ireturn, 1) := by decide +kernel
theorem dX10_who_0 : decode cX10_who 0 = .ok (.iload_n 1, 1) := by decide +kernel
theorem dX10_who_1 : decode cX10_who 1 = .ok (.invokestatic 279, 3) := by decide +kernel
theorem dX10_who_4 : decode cX10_who 4 = .ok (.ifCond .ne 6, 3) := by decide +kernel
theorem dX10_who_7 : decode cX10_who 7 = .ok (.ldc 94, 2) := by decide +kernel
theorem dX10_who_9 : decode cX10_who 9 = .ok (.ireturn, 1) := by decide +kernel
theorem dX10_who_10 : decode cX10_who 10 = .ok (.iconst 0, 1) := by decide +kernel
theorem dX10_who_11 : decode cX10_who 11 = .ok (.istore_n 2, 1) := by decide +kernel
theorem dX10_who_12 : decode cX10_who 12 = .ok (.iconst 0, 1) := by decide +kernel
theorem dX10_who_13 : decode cX10_who 13 = .ok (.istore_n 3, 1) := by decide +kernel
theorem dX10_who_14 : decode cX10_who 14 = .ok (.iload_n 3, 1) := by decide +kernel
theorem dX10_who_15 : decode cX10_who 15 = .ok (.aload_n 0, 1) := by decide +kernel
theorem dX10_who_16 : decode cX10_who 16 = .ok (.getfield 26, 3) := by decide +kernel
theorem dX10_who_19 : decode cX10_who 19 = .ok (.getfield 123, 3) := by decide +kernel
theorem dX10_who_22 : decode cX10_who 22 = .ok (.if_icmp .ge 24, 3) := by decide +kernel
theorem dX10_who_25 : decode cX10_who 25 = .ok (.aload_n 0, 1) := by decide +kernel
theorem dX10_who_26 : decode cX10_who 26 = .ok (.iload_n 3, 1) := by decide +kernel
theorem dX10_who_27 : decode cX10_who 27 = .ok (.iload_n 1, 1) := by decide +kernel
theorem dX10_who_28 : decode cX10_who 28 = .ok (.invokevirtual 282, 3) := by decide +kernel
theorem dX10_who_31 : decode cX10_who 31 = .ok (.ifCond .eq 9, 3) := by decide +kernel
theorem dX10_who_34 : decode cX10_who 34 = .ok (.iload_n 2, 1) := by decide +kernel
theorem dX10_who_35 : decode cX10_who 35 = .ok (.iconst 1, 1) := by decide +kernel
theorem dX10_who_36 : decode cX10_who 36 = .ok (.iload_n 3, 1) := by decide +kernel
theorem dX10_who_37 : decode cX10_who 37 = .ok (.ishl, 1) := by decide +kernel
theorem dX10_who_38 : decode cX10_who 38 = .ok (.ior, 1) := by decide +kernel
theorem dX10_who_39 : decode cX10_who 39 = .ok (.istore_n 2, 1) := by decide +kernel
theorem dX10_who_40 : decode cX10_who 40 = .ok (.iinc 3 1, 3) := by decide +kernel
theorem dX10_who_43 : decode cX10_who 43 = .ok (.goto (-29), 3) := by decide +kernel
theorem dX10_who_46 : decode cX10_who 46 = .ok (.iload_n 2, 1) := by decide +kernel
theorem dX10_who_47 : decode cX10_who 47 = .ok (.ireturn, 1) := by decide +kernel
theorem dX10_same_0 : decode cX10_same 0 = .ok (.aload_n 0, 1) := by decide +kernel
theorem dX10_same_1 : decode cX10_same 1 = .ok (.getfield 26, 3) := by decide +kernel
theorem dX10_same_4 : decode cX10_same 4 = .ok (.iload_n 1, 1) := by decide +kernel
theorem dX10_same_5 : decode cX10_same 5 = .ok (.invokevirtual 157, 3) := by decide +kernel
theorem dX10_same_8 : decode cX10_same 8 = .ok (.ifCond .eq 19, 3) := by decide +kernel
theorem dX10_same_11 : decode cX10_same 11 = .ok (.aload_n 0, 1) := by decide +kernel
theorem dX10_same_12 : decode cX10_same 12 = .ok (.getfield 26, 3) := by decide +kernel
theorem dX10_same_15 : decode cX10_same 15 = .ok (.iload_n 2, 1) := by decide +kernel
theorem dX10_same_16 : decode cX10_same 16 = .ok (.invokevirtual 157, 3) := by decide +kernel
theorem dX10_same_19 : decode cX10_same 19 = .ok (.ifCond .eq 8, 3) := by decide +kernel
theorem dX10_same_22 : decode cX10_same 22 = .ok (.iload_n 1, 1) := by decide +kernel
theorem dX10_same_23 : decode cX10_same 23 = .ok (.iload_n 2, 1) := by decide +kernel
theorem dX10_same_24 : decode cX10_same 24 = .ok (.if_icmp .ne 6, 3) := by decide +kernel
theorem dX10_same_27 : decode cX10_same 27 = .ok (.ldc 160, 2) := by decide +kernel
theorem dX10_same_29 : decode cX10_same 29 = .ok (.ireturn, 1) := by decide +kernel
theorem dX10_same_30 : decode cX10_same 30 = .ok (.iconst 1, 1) := by decide +kernel
theorem dX10_same_31 : decode cX10_same 31 = .ok (.istore_n 3, 1) := by decide +kernel
theorem dX10_same_32 : decode cX10_same 32 = .ok (.iload_n 3, 1) := by decide +kernel
theorem dX10_same_33 : decode cX10_same 33 = .ok (.sipush 200, 3) := by decide +kernel
theorem dX10_same_36 : decode cX10_same 36 = .ok (.if_icmp .gt 32, 3) := by decide +kernel
theorem dX10_same_39 : decode cX10_same 39 = .ok (.aload_n 0, 1) := by decide +kernel
theorem dX10_same_40 : decode cX10_same 40 = .ok (.getfield 35, 3) := by decide +kernel
theorem dX10_same_43 : decode cX10_same 43 = .ok (.iload_n 1, 1) := by decide +kernel
theorem dX10_same_44 : decode cX10_same 44 = .ok (.iload_n 3, 1) := by decide +kernel
theorem dX10_same_45 : decode cX10_same 45 = .ok (.invokevirtual 285, 3) := by decide +kernel
theorem dX10_same_48 : decode cX10_same 48 = .ok (.aload_n 0, 1) := by decide +kernel
theorem dX10_same_49 : decode cX10_same 49 = .ok (.getfield 35, 3) := by decide +kernel
theorem dX10_same_52 : decode cX10_same 52 = .ok (.iload_n 2, 1) := by decide +kernel
theorem dX10_same_53 : decode cX10_same 53 = .ok (.iload_n 3, 1) := by decide +kernel
theorem dX10_same_54 : decode cX10_same 54 = .ok (.invokevirtual 285, 3) := by decide +kernel
theorem dX10_same_57 : decode cX10_same 57 = .ok (.if_icmp .ne 5, 3) := by decide +kernel
theorem dX10_same_60 : decode cX10_same 60 = .ok (.iload_n 3, 1) := by decide +kernel
theorem dX10_same_61 : decode cX10_same 61 = .ok (.ireturn, 1) := by decide +kernel
theorem dX10_same_62 : decode cX10_same 62 = .ok (.iinc 3 1, 3) := by decide +kernel
theorem dX10_same_65 : decode cX10_same 65 = .ok (.goto (-33), 3) := by decide +kernel
theorem dX10_same_68 : decode cX10_same 68 = .ok (.iconst (-1), 1) := by decide +kernel
theorem dX10_same_69 : decode cX10_same 69 = .ok (.ireturn, 1) := by decide +kernel
theorem dX10_quiet_0 : decode cX10_quiet 0 = .ok (.iload_n 1, 1) := by decide +kernel
theorem dX10_quiet_1 : decode cX10_quiet 1 = .ok (.ifCond .lt 19, 3) := by decide +kernel
theorem dX10_quiet_4 : decode cX10_quiet 4 = .ok (.iload_n 1, 1) := by decide +kernel
theorem dX10_quiet_5 : decode cX10_quiet 5 = .ok (.bipush 60, 2) := by decide +kernel
theorem dX10_quiet_7 : decode cX10_quiet 7 = .ok (.if_icmp .gt 13, 3) := by decide +kernel
theorem dX10_quiet_10 : decode cX10_quiet 10 = .ok (.iload_n 2, 1) := by decide +kernel
theorem dX10_quiet_11 : decode cX10_quiet 11 = .ok (.ifCond .lt 9, 3) := by decide +kernel
theorem dX10_quiet_14 : decode cX10_quiet 14 = .ok (.iload_n 2, 1) := by decide +kernel
theorem dX10_quiet_15 : decode cX10_quiet 15 = .ok (.bipush 100, 2) := by decide +kernel
theorem dX10_quiet_17 : decode cX10_quiet 17 = .ok (.if_icmp .le 6, 3) := by decide +kernel
theorem dX10_quiet_20 : decode cX10_quiet 20 = .ok (.ldc 94, 2) := by decide +kernel
theorem dX10_quiet_22 : decode cX10_quiet 22 = .ok (.ireturn, 1) := by decide +kernel
theorem dX10_quiet_23 : decode cX10_quiet 23 = .ok (.ldc2_w 288, 3) := by decide +kernel
theorem dX10_quiet_26 : decode cX10_quiet 26 = .ok (.lstore_n 3, 1) := by decide +kernel
theorem dX10_quiet_27 : decode cX10_quiet 27 = .ok (.iconst 0, 1) := by decide +kernel
theorem dX10_quiet_28 : decode cX10_quiet 28 = .ok (.istore 5, 2) := by decide +kernel
theorem dX10_quiet_30 : decode cX10_quiet 30 = .ok (.iload 5, 2) := by decide +kernel
theorem dX10_quiet_32 : decode cX10_quiet 32 = .ok (.iload_n 1, 1) := by decide +kernel
theorem dX10_quiet_33 : decode cX10_quiet 33 = .ok (.if_icmp .ge 18, 3) := by decide +kernel
theorem dX10_quiet_36 : decode cX10_quiet 36 = .ok (.lload_n 3, 1) := by decide +kernel
theorem dX10_quiet_37 : decode cX10_quiet 37 = .ok (.iload_n 2, 1) := by decide +kernel
theorem dX10_quiet_38 : decode cX10_quiet 38 = .ok (.i2l, 1) := by decide +kernel
theorem dX10_quiet_39 : decode cX10_quiet 39 = .ok (.lmul, 1) := by decide +kernel
theorem dX10_quiet_40 : decode cX10_quiet 40 = .ok (.ldc2_w 290, 3) := by decide +kernel
theorem dX10_quiet_43 : decode cX10_quiet 43 = .ok (.ldiv, 1) := by decide +kernel
theorem dX10_quiet_44 : decode cX10_quiet 44 = .ok (.lstore_n 3, 1) := by decide +kernel
theorem dX10_quiet_45 : decode cX10_quiet 45 = .ok (.iinc 5 1, 3) := by decide +kernel
theorem dX10_quiet_48 : decode cX10_quiet 48 = .ok (.goto (-18), 3) := by decide +kernel
theorem dX10_quiet_51 : decode cX10_quiet 51 = .ok (.lload_n 3, 1) := by decide +kernel
theorem dX10_quiet_52 : decode cX10_quiet 52 = .ok (.l2i, 1) := by decide +kernel
theorem dX10_quiet_53 : decode cX10_quiet 53 = .ok (.ireturn, 1) := by decide +kernel
theorem dX10_see_0 : decode cX10_see 0 = .ok (.iload_n 1, 1) := by decide +kernel
theorem dX10_see_1 : decode cX10_see 1 = .ok (.ifCond .lt 17, 3) := by decide +kernel
theorem dX10_see_4 : decode cX10_see 4 = .ok (.iload_n 1, 1) := by decide +kernel
theorem dX10_see_5 : decode cX10_see 5 = .ok (.sipush 1000, 3) := by decide +kernel
theorem dX10_see_8 : decode cX10_see 8 = .ok (.if_icmp .ge 10, 3) := by decide +kernel
theorem dX10_see_11 : decode cX10_see 11 = .ok (.iload_n 2, 1) := by decide +kernel
theorem dX10_see_12 : decode cX10_see 12 = .ok (.invokestatic 279, 3) := by decide +kernel
theorem dX10_see_15 : decode cX10_see 15 = .ok (.ifCond .ne 6, 3) := by decide +kernel
theorem dX10_see_18 : decode cX10_see 18 = .ok (.ldc 94, 2) := by decide +kernel
theorem dX10_see_20 : decode cX10_see 20 = .ok (.ireturn, 1) := by decide +kernel
theorem dX10_see_21 : decode cX10_see 21 = .ok (.aload_n 0, 1) := by decide +kernel
theorem dX10_see_22 : decode cX10_see 22 = .ok (.getfield 66, 3) := by decide +kernel
theorem dX10_see_25 : decode cX10_see 25 = .ok (.iload_n 1, 1) := by decide +kernel
theorem dX10_see_26 : decode cX10_see 26 = .ok (.iload_n 2, 1) := by decide +kernel
theorem dX10_see_27 : decode cX10_see 27 = .ok (.invokevirtual 292, 3) := by decide +kernel
theorem dX10_see_30 : decode cX10_see 30 = .ok (.ifCond .eq 13, 3) := by decide +kernel
theorem dX10_see_33 : decode cX10_see 33 = .ok (.aload_n 0, 1) := by decide +kernel
theorem dX10_see_34 : decode cX10_see 34 = .ok (.getfield 66, 3) := by decide +kernel
theorem dX10_see_37 : decode cX10_see 37 = .ok (.getfield 152, 3) := by decide +kernel
theorem dX10_see_40 : decode cX10_see 40 = .ok (.goto 5, 3) := by decide +kernel
theorem dX10_see_43 : decode cX10_see 43 = .ok (.ldc 102, 2) := by decide +kernel
theorem dX10_see_45 : decode cX10_see 45 = .ok (.ireturn, 1) := by decide +kernel
theorem dX10_secrets_0 : decode cX10_secrets 0 = .ok (.iload_n 1, 1) := by decide +kernel
theorem dX10_secrets_1 : decode cX10_secrets 1 = .ok (.tableswitch 51 0 2 #[27, 35, 43], 27) := by decide +kernel
theorem dX10_secrets_28 : decode cX10_secrets 28 = .ok (.aload_n 0, 1) := by decide +kernel
theorem dX10_secrets_29 : decode cX10_secrets 29 = .ok (.getfield 66, 3) := by decide +kernel
theorem dX10_secrets_32 : decode cX10_secrets 32 = .ok (.invokevirtual 294, 3) := by decide +kernel
theorem dX10_secrets_35 : decode cX10_secrets 35 = .ok (.ireturn, 1) := by decide +kernel
theorem dX10_secrets_36 : decode cX10_secrets 36 = .ok (.aload_n 0, 1) := by decide +kernel
theorem dX10_secrets_37 : decode cX10_secrets 37 = .ok (.getfield 66, 3) := by decide +kernel
theorem dX10_secrets_40 : decode cX10_secrets 40 = .ok (.invokevirtual 297, 3) := by decide +kernel
theorem dX10_secrets_43 : decode cX10_secrets 43 = .ok (.ireturn, 1) := by decide +kernel
theorem dX10_secrets_44 : decode cX10_secrets 44 = .ok (.aload_n 0, 1) := by decide +kernel
theorem dX10_secrets_45 : decode cX10_secrets 45 = .ok (.getfield 66, 3) := by decide +kernel
theorem dX10_secrets_48 : decode cX10_secrets 48 = .ok (.invokevirtual 300, 3) := by decide +kernel
theorem dX10_secrets_51 : decode cX10_secrets 51 = .ok (.ireturn, 1) := by decide +kernel
theorem dX10_secrets_52 : decode cX10_secrets 52 = .ok (.ldc 94, 2) := by decide +kernel
theorem dX10_secrets_54 : decode cX10_secrets 54 = .ok (.ireturn, 1) := by decide +kernel
theorem dX10_ask_0 : decode cX10_ask 0 = .ok (.aload_n 0, 1) := by decide +kernel
theorem dX10_ask_1 : decode cX10_ask 1 = .ok (.getfield 66, 3) := by decide +kernel
theorem dX10_ask_4 : decode cX10_ask 4 = .ok (.invokevirtual 303, 3) := by decide +kernel
theorem dX10_ask_7 : decode cX10_ask 7 = .ok (.ireturn, 1) := by decide +kernel
theorem dX10_write_0 : decode cX10_write 0 = .ok (.aload_n 0, 1) := by decide +kernel
theorem dX10_write_1 : decode cX10_write 1 = .ok (.getfield 26, 3) := by decide +kernel
theorem dX10_write_4 : decode cX10_write 4 = .ok (.iload_n 1, 1) := by decide +kernel
theorem dX10_write_5 : decode cX10_write 5 = .ok (.invokevirtual 184, 3) := by decide +kernel
theorem dX10_write_8 : decode cX10_write 8 = .ok (.ifCond .ne 6, 3) := by decide +kernel
theorem dX10_write_11 : decode cX10_write 11 = .ok (.ldc 160, 2) := by decide +kernel
theorem dX10_write_13 : decode cX10_write 13 = .ok (.ireturn, 1) := by decide +kernel
theorem dX10_write_14 : decode cX10_write 14 = .ok (.iload_n 2, 1) := by decide +kernel
theorem dX10_write_15 : decode cX10_write 15 = .ok (.ifCond .lt 10, 3) := by decide +kernel
theorem dX10_write_18 : decode cX10_write 18 = .ok (.iload_n 2, 1) := by decide +kernel
theorem dX10_write_19 : decode cX10_write 19 = .ok (.sipush 9999, 3) := by decide +kernel
theorem dX10_write_22 : decode cX10_write 22 = .ok (.if_icmp .le 6, 3) := by decide +kernel
theorem dX10_write_25 : decode cX10_write 25 = .ok (.ldc 94, 2) := by decide +kernel
theorem dX10_write_27 : decode cX10_write 27 = .ok (.ireturn, 1) := by decide +kernel
theorem dX10_write_28 : decode cX10_write 28 = .ok (.aload_n 0, 1) := by decide +kernel
theorem dX10_write_29 : decode cX10_write 29 = .ok (.getfield 73, 3) := by decide +kernel
theorem dX10_write_32 : decode cX10_write 32 = .ok (.iload_n 1, 1) := by decide +kernel
theorem dX10_write_33 : decode cX10_write 33 = .ok (.iload_n 2, 1) := by decide +kernel
theorem dX10_write_34 : decode cX10_write 34 = .ok (.invokevirtual 306, 3) := by decide +kernel
theorem dX10_write_37 : decode cX10_write 37 = .ok (.ifCond .eq 13, 3) := by decide +kernel
theorem dX10_write_40 : decode cX10_write 40 = .ok (.aload_n 0, 1) := by decide +kernel
theorem dX10_write_41 : decode cX10_write 41 = .ok (.getfield 73, 3) := by decide +kernel
theorem dX10_write_44 : decode cX10_write 44 = .ok (.getfield 155, 3) := by decide +kernel
theorem dX10_write_47 : decode cX10_write 47 = .ok (.goto 5, 3) := by decide +kernel
theorem dX10_write_50 : decode cX10_write 50 = .ok (.ldc 102, 2) := by decide +kernel
theorem dX10_write_52 : decode cX10_write 52 = .ok (.ireturn, 1) := by decide +kernel
theorem dX10_tear_0 : decode cX10_tear 0 = .ok (.aload_n 0, 1) := by decide +kernel
theorem dX10_tear_1 : decode cX10_tear 1 = .ok (.getfield 66, 3) := by decide +kernel
theorem dX10_tear_4 : decode cX10_tear 4 = .ok (.getfield 152, 3) := by decide +kernel
theorem dX10_tear_7 : decode cX10_tear 7 = .ok (.aload_n 0, 1) := by decide +kernel
theorem dX10_tear_8 : decode cX10_tear 8 = .ok (.getfield 73, 3) := by decide +kernel
theorem dX10_tear_11 : decode cX10_tear 11 = .ok (.getfield 155, 3) := by decide +kernel
theorem dX10_tear_14 : decode cX10_tear 14 = .ok (.iadd, 1) := by decide +kernel
theorem dX10_tear_15 : decode cX10_tear 15 = .ok (.istore_n 1, 1) := by decide +kernel
theorem dX10_tear_16 : decode cX10_tear 16 = .ok (.aload_n 0, 1) := by decide +kernel
theorem dX10_tear_17 : decode cX10_tear 17 = .ok (.getfield 66, 3) := by decide +kernel
theorem dX10_tear_20 : decode cX10_tear 20 = .ok (.invokevirtual 91, 3) := by decide +kernel
theorem dX10_tear_23 : decode cX10_tear 23 = .ok (.aload_n 0, 1) := by decide +kernel
theorem dX10_tear_24 : decode cX10_tear 24 = .ok (.getfield 73, 3) := by decide +kernel
theorem dX10_tear_27 : decode cX10_tear 27 = .ok (.invokevirtual 122, 3) := by decide +kernel
theorem dX10_tear_30 : decode cX10_tear 30 = .ok (.iload_n 1, 1) := by decide +kernel
theorem dX10_tear_31 : decode cX10_tear 31 = .ok (.ireturn, 1) := by decide +kernel
theorem dX10_judge_0 : decode cX10_judge 0 = .ok (.aload_n 0, 1) := by decide +kernel
theorem dX10_judge_1 : decode cX10_judge 1 = .ok (.getfield 73, 3) := by decide +kernel
theorem dX10_judge_4 : decode cX10_judge 4 = .ok (.aload_n 0, 1) := by decide +kernel
theorem dX10_judge_5 : decode cX10_judge 5 = .ok (.getfield 35, 3) := by decide +kernel
theorem dX10_judge_8 : decode cX10_judge 8 = .ok (.invokevirtual 307, 3) := by decide +kernel
theorem dX10_judge_11 : decode cX10_judge 11 = .ok (.ireturn, 1) := by decide +kernel
theorem dX10_seed_0 : decode cX10_seed 0 = .ok (.iload_n 1, 1) := by decide +kernel
theorem dX10_seed_1 : decode cX10_seed 1 = .ok (.ifCond .ge 6, 3) := by decide +kernel
theorem dX10_seed_4 : decode cX10_seed 4 = .ok (.ldc 94, 2) := by decide +kernel
theorem dX10_seed_6 : decode cX10_seed 6 = .ok (.ireturn, 1) := by decide +kernel
theorem dX10_seed_7 : decode cX10_seed 7 = .ok (.aload_n 0, 1) := by decide +kernel
theorem dX10_seed_8 : decode cX10_seed 8 = .ok (.getfield 80, 3) := by decide +kernel
theorem dX10_seed_11 : decode cX10_seed 11 = .ok (.getfield 310, 3) := by decide +kernel
theorem dX10_seed_14 : decode cX10_seed 14 = .ok (.istore_n 2, 1) := by decide +kernel
theorem dX10_seed_15 : decode cX10_seed 15 = .ok (.aload_n 0, 1) := by decide +kernel
theorem dX10_seed_16 : decode cX10_seed 16 = .ok (.getfield 80, 3) := by decide +kernel
theorem dX10_seed_19 : decode cX10_seed 19 = .ok (.iload_n 1, 1) := by decide +kernel
theorem dX10_seed_20 : decode cX10_seed 20 = .ok (.putfield 310, 3) := by decide +kernel
theorem dX10_seed_23 : decode cX10_seed 23 = .ok (.iload_n 2, 1) := by decide +kernel
theorem dX10_seed_24 : decode cX10_seed 24 = .ok (.ireturn, 1) := by decide +kernel
theorem dX10_keep_0 : decode cX10_keep 0 = .ok (.aload_n 0, 1) := by decide +kernel
theorem dX10_keep_1 : decode cX10_keep 1 = .ok (.getfield 52, 3) := by decide +kernel
theorem dX10_keep_4 : decode cX10_keep 4 = .ok (.iload_n 1, 1) := by decide +kernel
theorem dX10_keep_5 : decode cX10_keep 5 = .ok (.invokevirtual 313, 3) := by decide +kernel
theorem dX10_keep_8 : decode cX10_keep 8 = .ok (.ifCond .ne 6, 3) := by decide +kernel
theorem dX10_keep_11 : decode cX10_keep 11 = .ok (.ldc 160, 2) := by decide +kernel
theorem dX10_keep_13 : decode cX10_keep 13 = .ok (.ireturn, 1) := by decide +kernel
theorem dX10_keep_14 : decode cX10_keep 14 = .ok (.aload_n 0, 1) := by decide +kernel
theorem dX10_keep_15 : decode cX10_keep 15 = .ok (.getfield 52, 3) := by decide +kernel
theorem dX10_keep_18 : decode cX10_keep 18 = .ok (.iload_n 1, 1) := by decide +kernel
theorem dX10_keep_19 : decode cX10_keep 19 = .ok (.aload_n 0, 1) := by decide +kernel
theorem dX10_keep_20 : decode cX10_keep 20 = .ok (.getfield 35, 3) := by decide +kernel
theorem dX10_keep_23 : decode cX10_keep 23 = .ok (.aload_n 0, 1) := by decide +kernel
theorem dX10_keep_24 : decode cX10_keep 24 = .ok (.getfield 80, 3) := by decide +kernel
theorem dX10_keep_27 : decode cX10_keep 27 = .ok (.invokevirtual 316, 3) := by decide +kernel
theorem dX10_keep_30 : decode cX10_keep 30 = .ok (.aload_n 0, 1) := by decide +kernel
theorem dX10_keep_31 : decode cX10_keep 31 = .ok (.getfield 45, 3) := by decide +kernel
theorem dX10_keep_34 : decode cX10_keep 34 = .ok (.invokevirtual 118, 3) := by decide +kernel
theorem dX10_keep_37 : decode cX10_keep 37 = .ok (.iconst 1, 1) := by decide +kernel
theorem dX10_keep_38 : decode cX10_keep 38 = .ok (.ireturn, 1) := by decide +kernel
theorem dX10_goBack_0 : decode cX10_goBack 0 = .ok (.aload_n 0, 1) := by decide +kernel
theorem dX10_goBack_1 : decode cX10_goBack 1 = .ok (.getfield 52, 3) := by decide +kernel
theorem dX10_goBack_4 : decode cX10_goBack 4 = .ok (.iload_n 1, 1) := by decide +kernel
theorem dX10_goBack_5 : decode cX10_goBack 5 = .ok (.invokevirtual 313, 3) := by decide +kernel
theorem dX10_goBack_8 : decode cX10_goBack 8 = .ok (.ifCond .ne 6, 3) := by decide +kernel
theorem dX10_goBack_11 : decode cX10_goBack 11 = .ok (.ldc 160, 2) := by decide +kernel
theorem dX10_goBack_13 : decode cX10_goBack 13 = .ok (.ireturn, 1) := by decide +kernel
theorem dX10_goBack_14 : decode cX10_goBack 14 = .ok (.aload_n 0, 1) := by decide +kernel
theorem dX10_goBack_15 : decode cX10_goBack 15 = .ok (.getfield 52, 3) := by decide +kernel
theorem dX10_goBack_18 : decode cX10_goBack 18 = .ok (.iload_n 1, 1) := by decide +kernel
theorem dX10_goBack_19 : decode cX10_goBack 19 = .ok (.invokevirtual 320, 3) := by decide +kernel
theorem dX10_goBack_22 : decode cX10_goBack 22 = .ok (.ifCond .ne 6, 3) := by decide +kernel
theorem dX10_goBack_25 : decode cX10_goBack 25 = .ok (.ldc 225, 2) := by decide +kernel
theorem dX10_goBack_27 : decode cX10_goBack 27 = .ok (.ireturn, 1) := by decide +kernel
theorem dX10_goBack_28 : decode cX10_goBack 28 = .ok (.aload_n 0, 1) := by decide +kernel
theorem dX10_goBack_29 : decode cX10_goBack 29 = .ok (.getfield 52, 3) := by decide +kernel
theorem dX10_goBack_32 : decode cX10_goBack 32 = .ok (.iload_n 1, 1) := by decide +kernel
theorem dX10_goBack_33 : decode cX10_goBack 33 = .ok (.aload_n 0, 1) := by decide +kernel
theorem dX10_goBack_34 : decode cX10_goBack 34 = .ok (.getfield 35, 3) := by decide +kernel
theorem dX10_goBack_37 : decode cX10_goBack 37 = .ok (.aload_n 0, 1) := by decide +kernel
theorem dX10_goBack_38 : decode cX10_goBack 38 = .ok (.getfield 80, 3) := by decide +kernel
theorem dX10_goBack_41 : decode cX10_goBack 41 = .ok (.invokevirtual 323, 3) := by decide +kernel
theorem dX10_goBack_44 : decode cX10_goBack 44 = .ok (.aload_n 0, 1) := by decide +kernel
theorem dX10_goBack_45 : decode cX10_goBack 45 = .ok (.getfield 45, 3) := by decide +kernel
theorem dX10_goBack_48 : decode cX10_goBack 48 = .ok (.invokevirtual 118, 3) := by decide +kernel
theorem dX10_goBack_51 : decode cX10_goBack 51 = .ok (.iconst 1, 1) := by decide +kernel
theorem dX10_goBack_52 : decode cX10_goBack 52 = .ok (.ireturn, 1) := by decide +kernel
theorem dX10_isPlace_0 : decode cX10_isPlace 0 = .ok (.iload_n 0, 1) := by decide +kernel
theorem dX10_isPlace_1 : decode cX10_isPlace 1 = .ok (.ifCond .lt 13, 3) := by decide +kernel
theorem dX10_isPlace_4 : decode cX10_isPlace 4 = .ok (.iload_n 0, 1) := by decide +kernel
theorem dX10_isPlace_5 : decode cX10_isPlace 5 = .ok (.bipush 10, 2) := by decide +kernel
theorem dX10_isPlace_7 : decode cX10_isPlace 7 = .ok (.if_icmp .ge 7, 3) := by decide +kernel
theorem dX10_isPlace_10 : decode cX10_isPlace 10 = .ok (.iconst 1, 1) := by decide +kernel
theorem dX10_isPlace_11 : decode cX10_isPlace 11 = .ok (.goto 4, 3) := by decide +kernel
theorem dX10_isPlace_14 : decode cX10_isPlace 14 = .ok (.iconst 0, 1) := by decide +kernel
theorem dX10_isPlace_15 : decode cX10_isPlace 15 = .ok (.ireturn, 1) := by decide +kernel
theorem dX10_isCode_0 : decode cX10_isCode 0 = .ok (.iload_n 0, 1) := by decide +kernel
theorem dX10_isCode_1 : decode cX10_isCode 1 = .ok (.ifCond .lt 14, 3) := by decide +kernel
theorem dX10_isCode_4 : decode cX10_isCode 4 = .ok (.iload_n 0, 1) := by decide +kernel
theorem dX10_isCode_5 : decode cX10_isCode 5 = .ok (.sipush 509, 3) := by decide +kernel
theorem dX10_isCode_8 : decode cX10_isCode 8 = .ok (.if_icmp .ge 7, 3) := by decide +kernel
theorem dX10_isCode_11 : decode cX10_isCode 11 = .ok (.iconst 1, 1) := by decide +kernel
theorem dX10_isCode_12 : decode cX10_isCode 12 = .ok (.goto 4, 3) := by decide +kernel
theorem dX10_isCode_15 : decode cX10_isCode 15 = .ok (.iconst 0, 1) := by decide +kernel
theorem dX10_isCode_16 : decode cX10_isCode 16 = .ok (.ireturn, 1) := by decide +kernel
theorem dX10_codeOf_0 : decode cX10_codeOf 0 = .ok (.iload_n 0, 1) := by decide +kernel
theorem dX10_codeOf_1 : decode cX10_codeOf 1 = .ok (.bipush 61, 2) := by decide +kernel
theorem dX10_codeOf_3 : decode cX10_codeOf 3 = .ok (.imul, 1) := by decide +kernel
theorem dX10_codeOf_4 : decode cX10_codeOf 4 = .ok (.iload_n 1, 1) := by decide +kernel
theorem dX10_codeOf_5 : decode cX10_codeOf 5 = .ok (.bipush 13, 2) := by decide +kernel
theorem dX10_codeOf_7 : decode cX10_codeOf 7 = .ok (.imul, 1) := by decide +kernel
theorem dX10_codeOf_8 : decode cX10_codeOf 8 = .ok (.iadd, 1) := by decide +kernel
theorem dX10_codeOf_9 : decode cX10_codeOf 9 = .ok (.iload_n 0, 1) := by decide +kernel
theorem dX10_codeOf_10 : decode cX10_codeOf 10 = .ok (.iload_n 1, 1) := by decide +kernel
theorem dX10_codeOf_11 : decode cX10_codeOf 11 = .ok (.imul, 1) := by decide +kernel
theorem dX10_codeOf_12 : decode cX10_codeOf 12 = .ok (.iadd, 1) := by decide +kernel
theorem dX10_codeOf_13 : decode cX10_codeOf 13 = .ok (.sipush 509, 3) := by decide +kernel
theorem dX10_codeOf_16 : decode cX10_codeOf 16 = .ok (.irem, 1) := by decide +kernel
theorem dX10_codeOf_17 : decode cX10_codeOf 17 = .ok (.ireturn, 1) := by decide +kernel
theorem dX10_areKnown_0 : decode cX10_areKnown 0 = .ok (.aload_n 0, 1) := by decide +kernel
theorem dX10_areKnown_1 : decode cX10_areKnown 1 = .ok (.getfield 26, 3) := by decide +kernel
theorem dX10_areKnown_4 : decode cX10_areKnown 4 = .ok (.iload_n 1, 1) := by decide +kernel
theorem dX10_areKnown_5 : decode cX10_areKnown 5 = .ok (.invokevirtual 184, 3) := by decide +kernel
theorem dX10_areKnown_8 : decode cX10_areKnown 8 = .ok (.ifCond .eq 18, 3) := by decide +kernel
theorem dX10_areKnown_11 : decode cX10_areKnown 11 = .ok (.aload_n 0, 1) := by decide +kernel
theorem dX10_areKnown_12 : decode cX10_areKnown 12 = .ok (.getfield 26, 3) := by decide +kernel
theorem dX10_areKnown_15 : decode cX10_areKnown 15 = .ok (.iload_n 2, 1) := by decide +kernel
theorem dX10_areKnown_16 : decode cX10_areKnown 16 = .ok (.invokevirtual 157, 3) := by decide +kernel
theorem dX10_areKnown_19 : decode cX10_areKnown 19 = .ok (.ifCond .eq 7, 3) := by decide +kernel
theorem dX10_areKnown_22 : decode cX10_areKnown 22 = .ok (.iconst 1, 1) := by decide +kernel
theorem dX10_areKnown_23 : decode cX10_areKnown 23 = .ok (.goto 4, 3) := by decide +kernel
theorem dX10_areKnown_26 : decode cX10_areKnown 26 = .ok (.iconst 0, 1) := by decide +kernel
theorem dX10_areKnown_27 : decode cX10_areKnown 27 = .ok (.ireturn, 1) := by decide +kernel
theorem dX10_opensFrom_0 : decode cX10_opensFrom 0 = .ok (.aload_n 0, 1) := by decide +kernel
theorem dX10_opensFrom_1 : decode cX10_opensFrom 1 = .ok (.getfield 39, 3) := by decide +kernel
theorem dX10_opensFrom_4 : decode cX10_opensFrom 4 = .ok (.aload_n 0, 1) := by decide +kernel
theorem dX10_opensFrom_5 : decode cX10_opensFrom 5 = .ok (.getfield 35, 3) := by decide +kernel
theorem dX10_opensFrom_8 : decode cX10_opensFrom 8 = .ok (.invokevirtual 264, 3) := by decide +kernel
theorem dX10_opensFrom_11 : decode cX10_opensFrom 11 = .ok (.aload_n 0, 1) := by decide +kernel
theorem dX10_opensFrom_12 : decode cX10_opensFrom 12 = .ok (.getfield 39, 3) := by decide +kernel
theorem dX10_opensFrom_15 : decode cX10_opensFrom 15 = .ok (.iload_n 1, 1) := by decide +kernel
theorem dX10_opensFrom_16 : decode cX10_opensFrom 16 = .ok (.iload_n 2, 1) := by decide +kernel
theorem dX10_opensFrom_17 : decode cX10_opensFrom 17 = .ok (.invokevirtual 230, 3) := by decide +kernel
theorem dX10_opensFrom_20 : decode cX10_opensFrom 20 = .ok (.ireturn, 1) := by decide +kernel
theorem dX10_bestPlace_0 : decode cX10_bestPlace 0 = .ok (.iconst 0, 1) := by decide +kernel
theorem dX10_bestPlace_1 : decode cX10_bestPlace 1 = .ok (.istore_n 2, 1) := by decide +kernel
theorem dX10_bestPlace_2 : decode cX10_bestPlace 2 = .ok (.iconst 0, 1) := by decide +kernel
theorem dX10_bestPlace_3 : decode cX10_bestPlace 3 = .ok (.istore_n 3, 1) := by decide +kernel
theorem dX10_bestPlace_4 : decode cX10_bestPlace 4 = .ok (.iconst 0, 1) := by decide +kernel
theorem dX10_bestPlace_5 : decode cX10_bestPlace 5 = .ok (.istore 4, 2) := by decide +kernel
theorem dX10_bestPlace_7 : decode cX10_bestPlace 7 = .ok (.iload 4, 2) := by decide +kernel
theorem dX10_bestPlace_9 : decode cX10_bestPlace 9 = .ok (.bipush 10, 2) := by decide +kernel
theorem dX10_bestPlace_11 : decode cX10_bestPlace 11 = .ok (.if_icmp .ge 33, 3) := by decide +kernel
theorem dX10_bestPlace_14 : decode cX10_bestPlace 14 = .ok (.aload_n 0, 1) := by decide +kernel
theorem dX10_bestPlace_15 : decode cX10_bestPlace 15 = .ok (.iload_n 1, 1) := by decide +kernel
theorem dX10_bestPlace_16 : decode cX10_bestPlace 16 = .ok (.iload 4, 2) := by decide +kernel
theorem dX10_bestPlace_18 : decode cX10_bestPlace 18 = .ok (.invokevirtual 256, 3) := by decide +kernel
theorem dX10_bestPlace_21 : decode cX10_bestPlace 21 = .ok (.invokestatic 326, 3) := by decide +kernel
theorem dX10_bestPlace_24 : decode cX10_bestPlace 24 = .ok (.istore 5, 2) := by decide +kernel
theorem dX10_bestPlace_26 : decode cX10_bestPlace 26 = .ok (.iload 5, 2) := by decide +kernel
theorem dX10_bestPlace_28 : decode cX10_bestPlace 28 = .ok (.iload_n 3, 1) := by decide +kernel
theorem dX10_bestPlace_29 : decode cX10_bestPlace 29 = .ok (.if_icmp .le 9, 3) := by decide +kernel
theorem dX10_bestPlace_32 : decode cX10_bestPlace 32 = .ok (.iload 5, 2) := by decide +kernel
theorem dX10_bestPlace_34 : decode cX10_bestPlace 34 = .ok (.istore_n 3, 1) := by decide +kernel
theorem dX10_bestPlace_35 : decode cX10_bestPlace 35 = .ok (.iload 4, 2) := by decide +kernel
theorem dX10_bestPlace_37 : decode cX10_bestPlace 37 = .ok (.istore_n 2, 1) := by decide +kernel
theorem dX10_bestPlace_38 : decode cX10_bestPlace 38 = .ok (.iinc 4 1, 3) := by decide +kernel
theorem dX10_bestPlace_41 : decode cX10_bestPlace 41 = .ok (.goto (-34), 3) := by decide +kernel
theorem dX10_bestPlace_44 : decode cX10_bestPlace 44 = .ok (.iload_n 2, 1) := by decide +kernel
theorem dX10_bestPlace_45 : decode cX10_bestPlace 45 = .ok (.ireturn, 1) := by decide +kernel
theorem dX10_usefulAt_0 : decode cX10_usefulAt 0 = .ok (.iconst 0, 1) := by decide +kernel
theorem dX10_usefulAt_1 : decode cX10_usefulAt 1 = .ok (.istore_n 2, 1) := by decide +kernel
theorem dX10_usefulAt_2 : decode cX10_usefulAt 2 = .ok (.iconst 0, 1) := by decide +kernel
theorem dX10_usefulAt_3 : decode cX10_usefulAt 3 = .ok (.istore_n 3, 1) := by decide +kernel
theorem dX10_usefulAt_4 : decode cX10_usefulAt 4 = .ok (.iload_n 3, 1) := by decide +kernel
theorem dX10_usefulAt_5 : decode cX10_usefulAt 5 = .ok (.aload_n 0, 1) := by decide +kernel
theorem dX10_usefulAt_6 : decode cX10_usefulAt 6 = .ok (.getfield 35, 3) := by decide +kernel
theorem dX10_usefulAt_9 : decode cX10_usefulAt 9 = .ok (.getfield 142, 3) := by decide +kernel
theorem dX10_usefulAt_12 : decode cX10_usefulAt 12 = .ok (.if_icmp .ge 46, 3) := by decide +kernel
theorem dX10_usefulAt_15 : decode cX10_usefulAt 15 = .ok (.aload_n 0, 1) := by decide +kernel
theorem dX10_usefulAt_16 : decode cX10_usefulAt 16 = .ok (.getfield 39, 3) := by decide +kernel
theorem dX10_usefulAt_19 : decode cX10_usefulAt 19 = .ok (.aload_n 0, 1) := by decide +kernel
theorem dX10_usefulAt_20 : decode cX10_usefulAt 20 = .ok (.getfield 35, 3) := by decide +kernel
theorem dX10_usefulAt_23 : decode cX10_usefulAt 23 = .ok (.invokevirtual 264, 3) := by decide +kernel
theorem dX10_usefulAt_26 : decode cX10_usefulAt 26 = .ok (.aload_n 0, 1) := by decide +kernel
theorem dX10_usefulAt_27 : decode cX10_usefulAt 27 = .ok (.getfield 39, 3) := by decide +kernel
theorem dX10_usefulAt_30 : decode cX10_usefulAt 30 = .ok (.iload_n 1, 1) := by decide +kernel
theorem dX10_usefulAt_31 : decode cX10_usefulAt 31 = .ok (.aload_n 0, 1) := by decide +kernel
theorem dX10_usefulAt_32 : decode cX10_usefulAt 32 = .ok (.getfield 35, 3) := by decide +kernel
theorem dX10_usefulAt_35 : decode cX10_usefulAt 35 = .ok (.getfield 219, 3) := by decide +kernel
theorem dX10_usefulAt_38 : decode cX10_usefulAt 38 = .ok (.iload_n 3, 1) := by decide +kernel
theorem dX10_usefulAt_39 : decode cX10_usefulAt 39 = .ok (.iaload, 1) := by decide +kernel
theorem dX10_usefulAt_40 : decode cX10_usefulAt 40 = .ok (.invokevirtual 331, 3) := by decide +kernel
theorem dX10_usefulAt_43 : decode cX10_usefulAt 43 = .ok (.ifCond .eq 9, 3) := by decide +kernel
theorem dX10_usefulAt_46 : decode cX10_usefulAt 46 = .ok (.iload_n 2, 1) := by decide +kernel
theorem dX10_usefulAt_47 : decode cX10_usefulAt 47 = .ok (.iconst 1, 1) := by decide +kernel
theorem dX10_usefulAt_48 : decode cX10_usefulAt 48 = .ok (.iload_n 3, 1) := by decide +kernel
theorem dX10_usefulAt_49 : decode cX10_usefulAt 49 = .ok (.ishl, 1) := by decide +kernel
theorem dX10_usefulAt_50 : decode cX10_usefulAt 50 = .ok (.ior, 1) := by decide +kernel
theorem dX10_usefulAt_51 : decode cX10_usefulAt 51 = .ok (.istore_n 2, 1) := by decide +kernel
theorem dX10_usefulAt_52 : decode cX10_usefulAt 52 = .ok (.iinc 3 1, 3) := by decide +kernel
theorem dX10_usefulAt_55 : decode cX10_usefulAt 55 = .ok (.goto (-51), 3) := by decide +kernel
theorem dX10_usefulAt_58 : decode cX10_usefulAt 58 = .ok (.iload_n 2, 1) := by decide +kernel
theorem dX10_usefulAt_59 : decode cX10_usefulAt 59 = .ok (.ireturn, 1) := by decide +kernel
theorem dX10_couldSend_0 : decode cX10_couldSend 0 = .ok (.aload_n 0, 1) := by decide +kernel
theorem dX10_couldSend_1 : decode cX10_couldSend 1 = .ok (.getfield 26, 3) := by decide +kernel
theorem dX10_couldSend_4 : decode cX10_couldSend 4 = .ok (.getfield 161, 3) := by decide +kernel
theorem dX10_couldSend_7 : decode cX10_couldSend 7 = .ok (.iload_n 1, 1) := by decide +kernel
theorem dX10_couldSend_8 : decode cX10_couldSend 8 = .ok (.iaload, 1) := by decide +kernel
theorem dX10_couldSend_9 : decode cX10_couldSend 9 = .ok (.iconst 3, 1) := by decide +kernel
theorem dX10_couldSend_10 : decode cX10_couldSend 10 = .ok (.if_icmp .ne 22, 3) := by decide +kernel
theorem dX10_couldSend_13 : decode cX10_couldSend 13 = .ok (.aload_n 0, 1) := by decide +kernel
theorem dX10_couldSend_14 : decode cX10_couldSend 14 = .ok (.getfield 35, 3) := by decide +kernel
theorem dX10_couldSend_17 : decode cX10_couldSend 17 = .ok (.iload_n 1, 1) := by decide +kernel
theorem dX10_couldSend_18 : decode cX10_couldSend 18 = .ok (.iconst 0, 1) := by decide +kernel
theorem dX10_couldSend_19 : decode cX10_couldSend 19 = .ok (.invokevirtual 285, 3) := by decide +kernel
theorem dX10_couldSend_22 : decode cX10_couldSend 22 = .ok (.iload_n 2, 1) := by decide +kernel
theorem dX10_couldSend_23 : decode cX10_couldSend 23 = .ok (.if_icmp .ne 7, 3) := by decide +kernel
theorem dX10_couldSend_26 : decode cX10_couldSend 26 = .ok (.iconst 1, 1) := by decide +kernel
theorem dX10_couldSend_27 : decode cX10_couldSend 27 = .ok (.goto 4, 3) := by decide +kernel
theorem dX10_couldSend_30 : decode cX10_couldSend 30 = .ok (.iconst 0, 1) := by decide +kernel
theorem dX10_couldSend_31 : decode cX10_couldSend 31 = .ok (.ireturn, 1) := by decide +kernel
theorem dX10_couldSend_32 : decode cX10_couldSend 32 = .ok (.iconst 1, 1) := by decide +kernel
theorem dX10_couldSend_33 : decode cX10_couldSend 33 = .ok (.istore_n 3, 1) := by decide +kernel
theorem dX10_couldSend_34 : decode cX10_couldSend 34 = .ok (.iload_n 3, 1) := by decide +kernel
theorem dX10_couldSend_35 : decode cX10_couldSend 35 = .ok (.bipush 40, 2) := by decide +kernel
theorem dX10_couldSend_37 : decode cX10_couldSend 37 = .ok (.if_icmp .gt 24, 3) := by decide +kernel
theorem dX10_couldSend_40 : decode cX10_couldSend 40 = .ok (.aload_n 0, 1) := by decide +kernel
theorem dX10_couldSend_41 : decode cX10_couldSend 41 = .ok (.getfield 35, 3) := by decide +kernel
theorem dX10_couldSend_44 : decode cX10_couldSend 44 = .ok (.iload_n 1, 1) := by decide +kernel
theorem dX10_couldSend_45 : decode cX10_couldSend 45 = .ok (.iload_n 3, 1) := by decide +kernel
theorem dX10_couldSend_46 : decode cX10_couldSend 46 = .ok (.invokevirtual 285, 3) := by decide +kernel
theorem dX10_couldSend_49 : decode cX10_couldSend 49 = .ok (.iload_n 2, 1) := by decide +kernel
theorem dX10_couldSend_50 : decode cX10_couldSend 50 = .ok (.if_icmp .ne 5, 3) := by decide +kernel
theorem dX10_couldSend_53 : decode cX10_couldSend 53 = .ok (.iconst 1, 1) := by decide +kernel
theorem dX10_couldSend_54 : decode cX10_couldSend 54 = .ok (.ireturn, 1) := by decide +kernel
theorem dX10_couldSend_55 : decode cX10_couldSend 55 = .ok (.iinc 3 1, 3) := by decide +kernel
theorem dX10_couldSend_58 : decode cX10_couldSend 58 = .ok (.goto (-24), 3) := by decide +kernel
theorem dX10_couldSend_61 : decode cX10_couldSend 61 = .ok (.iconst 0, 1) := by decide +kernel
theorem dX10_couldSend_62 : decode cX10_couldSend 62 = .ok (.ireturn, 1) := by decide +kernel
theorem dX10_passHour_0 : decode cX10_passHour 0 = .ok (.aload_n 0, 1) := by decide +kernel
theorem dX10_passHour_1 : decode cX10_passHour 1 = .ok (.getfield 35, 3) := by decide +kernel
theorem dX10_passHour_4 : decode cX10_passHour 4 = .ok (.dup, 1) := by decide +kernel
theorem dX10_passHour_5 : decode cX10_passHour 5 = .ok (.getfield 133, 3) := by decide +kernel
theorem dX10_passHour_8 : decode cX10_passHour 8 = .ok (.iconst 1, 1) := by decide +kernel
theorem dX10_passHour_9 : decode cX10_passHour 9 = .ok (.iadd, 1) := by decide +kernel
theorem dX10_passHour_10 : decode cX10_passHour 10 = .ok (.putfield 133, 3) := by decide +kernel
theorem dX10_passHour_13 : decode cX10_passHour 13 = .ok (.aload_n 0, 1) := by decide +kernel
theorem dX10_passHour_14 : decode cX10_passHour 14 = .ok (.getfield 26, 3) := by decide +kernel
theorem dX10_passHour_17 : decode cX10_passHour 17 = .ok (.getfield 123, 3) := by decide +kernel
theorem dX10_passHour_20 : decode cX10_passHour 20 = .ok (.ifCond .ne 4, 3) := by decide +kernel
theorem dX10_passHour_23 : decode cX10_passHour 23 = .ok (.return_, 1) := by decide +kernel
theorem dX10_passHour_24 : decode cX10_passHour 24 = .ok (.aload_n 0, 1) := by decide +kernel
theorem dX10_passHour_25 : decode cX10_passHour 25 = .ok (.getfield 80, 3) := by decide +kernel
theorem dX10_passHour_28 : decode cX10_passHour 28 = .ok (.iconst 5, 1) := by decide +kernel
theorem dX10_passHour_29 : decode cX10_passHour 29 = .ok (.invokevirtual 334, 3) := by decide +kernel
theorem dX10_passHour_32 : decode cX10_passHour 32 = .ok (.istore_n 1, 1) := by decide +kernel
theorem dX10_passHour_33 : decode cX10_passHour 33 = .ok (.aload_n 0, 1) := by decide +kernel
theorem dX10_passHour_34 : decode cX10_passHour 34 = .ok (.getfield 80, 3) := by decide +kernel
theorem dX10_passHour_37 : decode cX10_passHour 37 = .ok (.aload_n 0, 1) := by decide +kernel
theorem dX10_passHour_38 : decode cX10_passHour 38 = .ok (.getfield 26, 3) := by decide +kernel
theorem dX10_passHour_41 : decode cX10_passHour 41 = .ok (.getfield 123, 3) := by decide +kernel
theorem dX10_passHour_44 : decode cX10_passHour 44 = .ok (.invokevirtual 334, 3) := by decide +kernel
theorem dX10_passHour_47 : decode cX10_passHour 47 = .ok (.istore_n 2, 1) := by decide +kernel
theorem dX10_passHour_48 : decode cX10_passHour 48 = .ok (.iload_n 1, 1) := by decide +kernel
theorem dX10_passHour_49 : decode cX10_passHour 49 = .ok (.iconst 1, 1) := by decide +kernel
theorem dX10_passHour_50 : decode cX10_passHour 50 = .ok (.if_icmp .gt 24, 3) := by decide +kernel
theorem dX10_passHour_53 : decode cX10_passHour 53 = .ok (.aload_n 0, 1) := by decide +kernel
theorem dX10_passHour_54 : decode cX10_passHour 54 = .ok (.getfield 35, 3) := by decide +kernel
theorem dX10_passHour_57 : decode cX10_passHour 57 = .ok (.iload_n 2, 1) := by decide +kernel
theorem dX10_passHour_58 : decode cX10_passHour 58 = .ok (.aload_n 0, 1) := by decide +kernel
theorem dX10_passHour_59 : decode cX10_passHour 59 = .ok (.getfield 35, 3) := by decide +kernel
theorem dX10_passHour_62 : decode cX10_passHour 62 = .ok (.getfield 165, 3) := by decide +kernel
theorem dX10_passHour_65 : decode cX10_passHour 65 = .ok (.iload_n 2, 1) := by decide +kernel
theorem dX10_passHour_66 : decode cX10_passHour 66 = .ok (.iaload, 1) := by decide +kernel
theorem dX10_passHour_67 : decode cX10_passHour 67 = .ok (.invokevirtual 230, 3) := by decide +kernel
theorem dX10_passHour_70 : decode cX10_passHour 70 = .ok (.pop, 1) := by decide +kernel
theorem dX10_passHour_71 : decode cX10_passHour 71 = .ok (.goto 105, 3) := by decide +kernel
theorem dX10_passHour_74 : decode cX10_passHour 74 = .ok (.iload_n 1, 1) := by decide +kernel
theorem dX10_passHour_75 : decode cX10_passHour 75 = .ok (.iconst 2, 1) := by decide +kernel
theorem dX10_passHour_76 : decode cX10_passHour 76 = .ok (.if_icmp .ne 24, 3) := by decide +kernel
theorem dX10_passHour_79 : decode cX10_passHour 79 = .ok (.aload_n 0, 1) := by decide +kernel
theorem dX10_passHour_80 : decode cX10_passHour 80 = .ok (.getfield 35, 3) := by decide +kernel
theorem dX10_passHour_83 : decode cX10_passHour 83 = .ok (.getfield 165, 3) := by decide +kernel
theorem dX10_passHour_86 : decode cX10_passHour 86 = .ok (.iload_n 2, 1) := by decide +kernel
theorem dX10_passHour_87 : decode cX10_passHour 87 = .ok (.aload_n 0, 1) := by decide +kernel
theorem dX10_passHour_88 : decode cX10_passHour 88 = .ok (.getfield 80, 3) := by decide +kernel
theorem dX10_passHour_91 : decode cX10_passHour 91 = .ok (.bipush 10, 2) := by decide +kernel
theorem dX10_passHour_93 : decode cX10_passHour 93 = .ok (.invokevirtual 334, 3) := by decide +kernel
theorem dX10_passHour_96 : decode cX10_passHour 96 = .ok (.iastore, 1) := by decide +kernel
theorem dX10_passHour_97 : decode cX10_passHour 97 = .ok (.goto 79, 3) := by decide +kernel
theorem dX10_passHour_100 : decode cX10_passHour 100 = .ok (.iload_n 1, 1) := by decide +kernel
theorem dX10_passHour_101 : decode cX10_passHour 101 = .ok (.iconst 3, 1) := by decide +kernel
theorem dX10_passHour_102 : decode cX10_passHour 102 = .ok (.if_icmp .ne 37, 3) := by decide +kernel
theorem dX10_passHour_105 : decode cX10_passHour 105 = .ok (.aload_n 0, 1) := by decide +kernel
theorem dX10_passHour_106 : decode cX10_passHour 106 = .ok (.getfield 26, 3) := by decide +kernel
theorem dX10_passHour_109 : decode cX10_passHour 109 = .ok (.getfield 130, 3) := by decide +kernel
theorem dX10_passHour_112 : decode cX10_passHour 112 = .ok (.ifCond .le 27, 3) := by decide +kernel
theorem dX10_passHour_115 : decode cX10_passHour 115 = .ok (.aload_n 0, 1) := by decide +kernel
theorem dX10_passHour_116 : decode cX10_passHour 116 = .ok (.getfield 35, 3) := by decide +kernel
theorem dX10_passHour_119 : decode cX10_passHour 119 = .ok (.aload_n 0, 1) := by decide +kernel
theorem dX10_passHour_120 : decode cX10_passHour 120 = .ok (.getfield 80, 3) := by decide +kernel
theorem dX10_passHour_123 : decode cX10_passHour 123 = .ok (.aload_n 0, 1) := by decide +kernel
theorem dX10_passHour_124 : decode cX10_passHour 124 = .ok (.getfield 26, 3) := by decide +kernel
theorem dX10_passHour_127 : decode cX10_passHour 127 = .ok (.getfield 130, 3) := by decide +kernel
theorem dX10_passHour_130 : decode cX10_passHour 130 = .ok (.invokevirtual 334, 3) := by decide +kernel
theorem dX10_passHour_133 : decode cX10_passHour 133 = .ok (.invokevirtual 239, 3) := by decide +kernel
theorem dX10_passHour_136 : decode cX10_passHour 136 = .ok (.goto 40, 3) := by decide +kernel
theorem dX10_passHour_139 : decode cX10_passHour 139 = .ok (.iload_n 1, 1) := by decide +kernel
theorem dX10_passHour_140 : decode cX10_passHour 140 = .ok (.iconst 4, 1) := by decide +kernel
theorem dX10_passHour_141 : decode cX10_passHour 141 = .ok (.if_icmp .ne 35, 3) := by decide +kernel
theorem dX10_passHour_144 : decode cX10_passHour 144 = .ok (.aload_n 0, 1) := by decide +kernel
theorem dX10_passHour_145 : decode cX10_passHour 145 = .ok (.getfield 35, 3) := by decide +kernel
theorem dX10_passHour_148 : decode cX10_passHour 148 = .ok (.getfield 142, 3) := by decide +kernel
theorem dX10_passHour_151 : decode cX10_passHour 151 = .ok (.ifCond .le 25, 3) := by decide +kernel
theorem dX10_passHour_154 : decode cX10_passHour 154 = .ok (.aload_n 0, 1) := by decide +kernel
theorem dX10_passHour_155 : decode cX10_passHour 155 = .ok (.getfield 35, 3) := by decide +kernel
theorem dX10_passHour_158 : decode cX10_passHour 158 = .ok (.aload_n 0, 1) := by decide +kernel
theorem dX10_passHour_159 : decode cX10_passHour 159 = .ok (.getfield 80, 3) := by decide +kernel
theorem dX10_passHour_162 : decode cX10_passHour 162 = .ok (.aload_n 0, 1) := by decide +kernel
theorem dX10_passHour_163 : decode cX10_passHour 163 = .ok (.getfield 35, 3) := by decide +kernel
theorem dX10_passHour_166 : decode cX10_passHour 166 = .ok (.getfield 142, 3) := by decide +kernel
theorem dX10_passHour_169 : decode cX10_passHour 169 = .ok (.invokevirtual 334, 3) := by decide +kernel
theorem dX10_passHour_172 : decode cX10_passHour 172 = .ok (.invokevirtual 247, 3) := by decide +kernel
theorem dX10_passHour_175 : decode cX10_passHour 175 = .ok (.pop, 1) := by decide +kernel
theorem dX10_passHour_176 : decode cX10_passHour 176 = .ok (.return_, 1) := by decide +kernel
theorem dX11_init_0 : decode cX11_init 0 = .ok (.aload_n 0, 1) := by decide +kernel
theorem dX11_init_1 : decode cX11_init 1 = .ok (.invokespecial 1, 3) := by decide +kernel
theorem dX11_init_4 : decode cX11_init 4 = .ok (.aload_n 0, 1) := by decide +kernel
theorem dX11_init_5 : decode cX11_init 5 = .ok (.iconst 4, 1) := by decide +kernel
theorem dX11_init_6 : decode cX11_init 6 = .ok (.newarray .int, 2) := by decide +kernel
theorem dX11_init_8 : decode cX11_init 8 = .ok (.putfield 7, 3) := by decide +kernel
theorem dX11_init_11 : decode cX11_init 11 = .ok (.aload_n 0, 1) := by decide +kernel
theorem dX11_init_12 : decode cX11_init 12 = .ok (.iconst 4, 1) := by decide +kernel
theorem dX11_init_13 : decode cX11_init 13 = .ok (.newarray .int, 2) := by decide +kernel
theorem dX11_init_15 : decode cX11_init 15 = .ok (.putfield 13, 3) := by decide +kernel
theorem dX11_init_18 : decode cX11_init 18 = .ok (.aload_n 0, 1) := by decide +kernel
theorem dX11_init_19 : decode cX11_init 19 = .ok (.iconst 4, 1) := by decide +kernel
theorem dX11_init_20 : decode cX11_init 20 = .ok (.newarray .int, 2) := by decide +kernel
theorem dX11_init_22 : decode cX11_init 22 = .ok (.putfield 16, 3) := by decide +kernel
theorem dX11_init_25 : decode cX11_init 25 = .ok (.aload_n 0, 1) := by decide +kernel
theorem dX11_init_26 : decode cX11_init 26 = .ok (.iconst 5, 1) := by decide +kernel
theorem dX11_init_27 : decode cX11_init 27 = .ok (.newarray .int, 2) := by decide +kernel
theorem dX11_init_29 : decode cX11_init 29 = .ok (.putfield 19, 3) := by decide +kernel
theorem dX11_init_32 : decode cX11_init 32 = .ok (.aload_n 0, 1) := by decide +kernel
theorem dX11_init_33 : decode cX11_init 33 = .ok (.iconst 5, 1) := by decide +kernel
theorem dX11_init_34 : decode cX11_init 34 = .ok (.newarray .int, 2) := by decide +kernel
theorem dX11_init_36 : decode cX11_init 36 = .ok (.putfield 22, 3) := by decide +kernel
theorem dX11_init_39 : decode cX11_init 39 = .ok (.aload_n 0, 1) := by decide +kernel
theorem dX11_init_40 : decode cX11_init 40 = .ok (.iconst 5, 1) := by decide +kernel
theorem dX11_init_41 : decode cX11_init 41 = .ok (.newarray .int, 2) := by decide +kernel
theorem dX11_init_43 : decode cX11_init 43 = .ok (.putfield 25, 3) := by decide +kernel
theorem dX11_init_46 : decode cX11_init 46 = .ok (.aload_n 0, 1) := by decide +kernel
theorem dX11_init_47 : decode cX11_init 47 = .ok (.iconst 5, 1) := by decide +kernel
theorem dX11_init_48 : decode cX11_init 48 = .ok (.newarray .int, 2) := by decide +kernel
theorem dX11_init_50 : decode cX11_init 50 = .ok (.putfield 28, 3) := by decide +kernel
theorem dX11_init_53 : decode cX11_init 53 = .ok (.aload_n 0, 1) := by decide +kernel
theorem dX11_init_54 : decode cX11_init 54 = .ok (.iconst 5, 1) := by decide +kernel
theorem dX11_init_55 : decode cX11_init 55 = .ok (.newarray .int, 2) := by decide +kernel
theorem dX11_init_57 : decode cX11_init 57 = .ok (.putfield 31, 3) := by decide +kernel
theorem dX11_init_60 : decode cX11_init 60 = .ok (.aload_n 0, 1) := by decide +kernel
theorem dX11_init_61 : decode cX11_init 61 = .ok (.bipush 59, 2) := by decide +kernel
theorem dX11_init_63 : decode cX11_init 63 = .ok (.newarray .int, 2) := by decide +kernel
theorem dX11_init_65 : decode cX11_init 65 = .ok (.putfield 34, 3) := by decide +kernel
theorem dX11_init_68 : decode cX11_init 68 = .ok (.aload_n 0, 1) := by decide +kernel
theorem dX11_init_69 : decode cX11_init 69 = .ok (.sipush 240, 3) := by decide +kernel
theorem dX11_init_72 : decode cX11_init 72 = .ok (.newarray .int, 2) := by decide +kernel
theorem dX11_init_74 : decode cX11_init 74 = .ok (.putfield 37, 3) := by decide +kernel
theorem dX11_init_77 : decode cX11_init 77 = .ok (.aload_n 0, 1) := by decide +kernel
theorem dX11_init_78 : decode cX11_init 78 = .ok (.iconst (-1), 1) := by decide +kernel
theorem dX11_init_79 : decode cX11_init 79 = .ok (.putfield 40, 3) := by decide +kernel
theorem dX11_init_82 : decode cX11_init 82 = .ok (.aload_n 0, 1) := by decide +kernel
theorem dX11_init_83 : decode cX11_init 83 = .ok (.iconst 2, 1) := by decide +kernel
theorem dX11_init_84 : decode cX11_init 84 = .ok (.newarray .int, 2) := by decide +kernel
theorem dX11_init_86 : decode cX11_init 86 = .ok (.putfield 44, 3) := by decide +kernel
theorem dX11_init_89 : decode cX11_init 89 = .ok (.aload_n 0, 1) := by decide +kernel
theorem dX11_init_90 : decode cX11_init 90 = .ok (.iconst 4, 1) := by decide +kernel
theorem dX11_init_91 : decode cX11_init 91 = .ok (.newarray .int, 2) := by decide +kernel
theorem dX11_init_93 : decode cX11_init 93 = .ok (.putfield 47, 3) := by decide +kernel
theorem dX11_init_96 : decode cX11_init 96 = .ok (.aload_n 0, 1) := by decide +kernel
theorem dX11_init_97 : decode cX11_init 97 = .ok (.iconst 4, 1) := by decide +kernel
theorem dX11_init_98 : decode cX11_init 98 = .ok (.newarray .int, 2) := by decide +kernel
theorem dX11_init_100 : decode cX11_init 100 = .ok (.putfield 50, 3) := by decide +kernel
theorem dX11_init_103 : decode cX11_init 103 = .ok (.aload_n 0, 1) := by decide +kernel
theorem dX11_init_104 : decode cX11_init 104 = .ok (.iconst 4, 1) := by decide +kernel
theorem dX11_init_105 : decode cX11_init 105 = .ok (.newarray .int, 2) := by decide +kernel
theorem dX11_init_107 : decode cX11_init 107 = .ok (.putfield 53, 3) := by decide +kernel
theorem dX11_init_110 : decode cX11_init 110 = .ok (.aload_n 0, 1) := by decide +kernel
theorem dX11_init_111 : decode cX11_init 111 = .ok (.iconst 5, 1) := by decide +kernel
theorem dX11_init_112 : decode cX11_init 112 = .ok (.newarray .int, 2) := by decide +kernel
theorem dX11_init_114 : decode cX11_init 114 = .ok (.putfield 56, 3) := by decide +kernel
theorem dX11_init_117 : decode cX11_init 117 = .ok (.aload_n 0, 1) := by decide +kernel
theorem dX11_init_118 : decode cX11_init 118 = .ok (.iconst 5, 1) := by decide +kernel
theorem dX11_init_119 : decode cX11_init 119 = .ok (.newarray .int, 2) := by decide +kernel
theorem dX11_init_121 : decode cX11_init 121 = .ok (.putfield 59, 3) := by decide +kernel
theorem dX11_init_124 : decode cX11_init 124 = .ok (.aload_n 0, 1) := by decide +kernel
theorem dX11_init_125 : decode cX11_init 125 = .ok (.iconst 5, 1) := by decide +kernel
theorem dX11_init_126 : decode cX11_init 126 = .ok (.newarray .int, 2) := by decide +kernel
theorem dX11_init_128 : decode cX11_init 128 = .ok (.putfield 62, 3) := by decide +kernel
theorem dX11_init_131 : decode cX11_init 131 = .ok (.aload_n 0, 1) := by decide +kernel
theorem dX11_init_132 : decode cX11_init 132 = .ok (.iconst 5, 1) := by decide +kernel
theorem dX11_init_133 : decode cX11_init 133 = .ok (.newarray .int, 2) := by decide +kernel
theorem dX11_init_135 : decode cX11_init 135 = .ok (.putfield 65, 3) := by decide +kernel
theorem dX11_init_138 : decode cX11_init 138 = .ok (.aload_n 0, 1) := by decide +kernel
theorem dX11_init_139 : decode cX11_init 139 = .ok (.iconst 5, 1) := by decide +kernel
theorem dX11_init_140 : decode cX11_init 140 = .ok (.newarray .int, 2) := by decide +kernel
theorem dX11_init_142 : decode cX11_init 142 = .ok (.putfield 68, 3) := by decide +kernel
theorem dX11_init_145 : decode cX11_init 145 = .ok (.aload_n 0, 1) := by decide +kernel
theorem dX11_init_146 : decode cX11_init 146 = .ok (.sipush 944, 3) := by decide +kernel
theorem dX11_init_149 : decode cX11_init 149 = .ok (.newarray .int, 2) := by decide +kernel
theorem dX11_init_151 : decode cX11_init 151 = .ok (.putfield 71, 3) := by decide +kernel
theorem dX11_init_154 : decode cX11_init 154 = .ok (.aload_n 0, 1) := by decide +kernel
theorem dX11_init_155 : decode cX11_init 155 = .ok (.bipush 59, 2) := by decide +kernel
theorem dX11_init_157 : decode cX11_init 157 = .ok (.newarray .int, 2) := by decide +kernel
theorem dX11_init_159 : decode cX11_init 159 = .ok (.putfield 74, 3) := by decide +kernel
theorem dX11_init_162 : decode cX11_init 162 = .ok (.aload_n 0, 1) := by decide +kernel
theorem dX11_init_163 : decode cX11_init 163 = .ok (.bipush 6, 2) := by decide +kernel
theorem dX11_init_165 : decode cX11_init 165 = .ok (.newarray .int, 2) := by decide +kernel
theorem dX11_init_167 : decode cX11_init 167 = .ok (.putfield 77, 3) := by decide +kernel
theorem dX11_init_170 : decode cX11_init 170 = .ok (.aload_n 0, 1) := by decide +kernel
theorem dX11_init_171 : decode cX11_init 171 = .ok (.bipush 6, 2) := by decide +kernel
theorem dX11_init_173 : decode cX11_init 173 = .ok (.newarray .int, 2) := by decide +kernel
theorem dX11_init_175 : decode cX11_init 175 = .ok (.putfield 80, 3) := by decide +kernel
theorem dX11_init_178 : decode cX11_init 178 = .ok (.aload_n 0, 1) := by decide +kernel
theorem dX11_init_179 : decode cX11_init 179 = .ok (.sipush 509, 3) := by decide +kernel
theorem dX11_init_182 : decode cX11_init 182 = .ok (.newarray .int, 2) := by decide +kernel
theorem dX11_init_184 : decode cX11_init 184 = .ok (.putfield 83, 3) := by decide +kernel
theorem dX11_init_187 : decode cX11_init 187 = .ok (.aload_n 0, 1) := by decide +kernel
theorem dX11_init_188 : decode cX11_init 188 = .ok (.bipush 15, 2) := by decide +kernel
theorem dX11_init_190 : decode cX11_init 190 = .ok (.newarray .int, 2) := by decide +kernel
theorem dX11_init_192 : decode cX11_init 192 = .ok (.putfield 86, 3) := by decide +kernel
theorem dX11_init_195 : decode cX11_init 195 = .ok (.aload_n 0, 1) := by decide +kernel
theorem dX11_init_196 : decode cX11_init 196 = .ok (.bipush 15, 2) := by decide +kernel
theorem dX11_init_198 : decode cX11_init 198 = .ok (.newarray .int, 2) := by decide +kernel
theorem dX11_init_200 : decode cX11_init 200 = .ok (.putfield 89, 3) := by decide +kernel
theorem dX11_init_203 : decode cX11_init 203 = .ok (.aload_n 0, 1) := by decide +kernel
theorem dX11_init_204 : decode cX11_init 204 = .ok (.bipush 120, 2) := by decide +kernel
theorem dX11_init_206 : decode cX11_init 206 = .ok (.newarray .int, 2) := by decide +kernel
theorem dX11_init_208 : decode cX11_init 208 = .ok (.putfield 92, 3) := by decide +kernel
theorem dX11_init_211 : decode cX11_init 211 = .ok (.aload_n 0, 1) := by decide +kernel
theorem dX11_init_212 : decode cX11_init 212 = .ok (.iconst 2, 1) := by decide +kernel
theorem dX11_init_213 : decode cX11_init 213 = .ok (.newarray .boolean, 2) := by decide +kernel
theorem dX11_init_215 : decode cX11_init 215 = .ok (.putfield 95, 3) := by decide +kernel
theorem dX11_init_218 : decode cX11_init 218 = .ok (.aload_n 0, 1) := by decide +kernel
theorem dX11_init_219 : decode cX11_init 219 = .ok (.iconst 0, 1) := by decide +kernel
theorem dX11_init_220 : decode cX11_init 220 = .ok (.putfield 99, 3) := by decide +kernel
theorem dX11_init_223 : decode cX11_init 223 = .ok (.return_, 1) := by decide +kernel
theorem dX11_in_0 : decode cX11_in 0 = .ok (.lload_n 0, 1) := by decide +kernel
theorem dX11_in_1 : decode cX11_in 1 = .ok (.lload_n 2, 1) := by decide +kernel
theorem dX11_in_2 : decode cX11_in 2 = .ok (.lcmp, 1) := by decide +kernel
theorem dX11_in_3 : decode cX11_in 3 = .ok (.ifCond .lt 14, 3) := by decide +kernel
theorem dX11_in_6 : decode cX11_in 6 = .ok (.lload_n 0, 1) := by decide +kernel
theorem dX11_in_7 : decode cX11_in 7 = .ok (.lload 4, 2) := by decide +kernel
theorem dX11_in_9 : decode cX11_in 9 = .ok (.lcmp, 1) := by decide +kernel
theorem dX11_in_10 : decode cX11_in 10 = .ok (.ifCond .gt 7, 3) := by decide +kernel
theorem dX11_in_13 : decode cX11_in 13 = .ok (.iconst 1, 1) := by decide +kernel
theorem dX11_in_14 : decode cX11_in 14 = .ok (.goto 4, 3) := by decide +kernel
theorem dX11_in_17 : decode cX11_in 17 = .ok (.iconst 0, 1) := by decide +kernel
theorem dX11_in_18 : decode cX11_in 18 = .ok (.ireturn, 1) := by decide +kernel
theorem dX11_has_0 : decode cX11_has 0 = .ok (.iload_n 0, 1) := by decide +kernel
theorem dX11_has_1 : decode cX11_has 1 = .ok (.iload_n 1, 1) := by decide +kernel
theorem dX11_has_2 : decode cX11_has 2 = .ok (.ishr, 1) := by decide +kernel
theorem dX11_has_3 : decode cX11_has 3 = .ok (.iconst 1, 1) := by decide +kernel
theorem dX11_has_4 : decode cX11_has 4 = .ok (.iand, 1) := by decide +kernel
theorem dX11_has_5 : decode cX11_has 5 = .ok (.iconst 1, 1) := by decide +kernel
theorem dX11_has_6 : decode cX11_has 6 = .ok (.if_icmp .ne 7, 3) := by decide +kernel
theorem dX11_has_9 : decode cX11_has 9 = .ok (.iconst 1, 1) := by decide +kernel
theorem dX11_has_10 : decode cX11_has 10 = .ok (.goto 4, 3) := by decide +kernel
theorem dX11_has_13 : decode cX11_has 13 = .ok (.iconst 0, 1) := by decide +kernel
theorem dX11_has_14 : decode cX11_has 14 = .ok (.ireturn, 1) := by decide +kernel
theorem dX11_bits_0 : decode cX11_bits 0 = .ok (.iconst 0, 1) := by decide +kernel
theorem dX11_bits_1 : decode cX11_bits 1 = .ok (.istore_n 1, 1) := by decide +kernel
theorem dX11_bits_2 : decode cX11_bits 2 = .ok (.iconst 0, 1) := by decide +kernel
theorem dX11_bits_3 : decode cX11_bits 3 = .ok (.istore_n 2, 1) := by decide +kernel
theorem dX11_bits_4 : decode cX11_bits 4 = .ok (.iload_n 2, 1) := by decide +kernel
theorem dX11_bits_5 : decode cX11_bits 5 = .ok (.bipush 8, 2) := by decide +kernel
theorem dX11_bits_7 : decode cX11_bits 7 = .ok (.if_icmp .ge 17, 3) := by decide +kernel
theorem dX11_bits_10 : decode cX11_bits 10 = .ok (.iload_n 1, 1) := by decide +kernel
theorem dX11_bits_11 : decode cX11_bits 11 = .ok (.iload_n 0, 1) := by decide +kernel
theorem dX11_bits_12 : decode cX11_bits 12 = .ok (.iload_n 2, 1) := by decide +kernel
theorem dX11_bits_13 : decode cX11_bits 13 = .ok (.ishr, 1) := by decide +kernel
theorem dX11_bits_14 : decode cX11_bits 14 = .ok (.iconst 1, 1) := by decide +kernel
theorem dX11_bits_15 : decode cX11_bits 15 = .ok (.iand, 1) := by decide +kernel
theorem dX11_bits_16 : decode cX11_bits 16 = .ok (.iadd, 1) := by decide +kernel
theorem dX11_bits_17 : decode cX11_bits 17 = .ok (.istore_n 1, 1) := by decide +kernel
theorem dX11_bits_18 : decode cX11_bits 18 = .ok (.iinc 2 1, 3) := by decide +kernel
theorem dX11_bits_21 : decode cX11_bits 21 = .ok (.goto (-17), 3) := by decide +kernel
theorem dX11_bits_24 : decode cX11_bits 24 = .ok (.iload_n 1, 1) := by decide +kernel
theorem dX11_bits_25 : decode cX11_bits 25 = .ok (.ireturn, 1) := by decide +kernel
theorem dX11_isFob_0 : decode cX11_isFob 0 = .ok (.iload_n 1, 1) := by decide +kernel
theorem dX11_isFob_1 : decode cX11_isFob 1 = .ok (.i2l, 1) := by decide +kernel
theorem dX11_isFob_2 : decode cX11_isFob 2 = .ok (.lconst 0, 1) := by decide +kernel
theorem dX11_isFob_3 : decode cX11_isFob 3 = .ok (.aload_n 0, 1) := by decide +kernel
theorem dX11_isFob_4 : decode cX11_isFob 4 = .ok (.getfield 102, 3) := by decide +kernel
theorem dX11_isFob_7 : decode cX11_isFob 7 = .ok (.iconst 1, 1) := by decide +kernel
theorem dX11_isFob_8 : decode cX11_isFob 8 = .ok (.isub, 1) := by decide +kernel
theorem dX11_isFob_9 : decode cX11_isFob 9 = .ok (.i2l, 1) := by decide +kernel
theorem dX11_isFob_10 : decode cX11_isFob 10 = .ok (.invokestatic 105, 3) := by decide +kernel
theorem dX11_isFob_13 : decode cX11_isFob 13 = .ok (.ireturn, 1) := by decide +kernel
theorem dX11_isGate_0 : decode cX11_isGate 0 = .ok (.iload_n 1, 1) := by decide +kernel
theorem dX11_isGate_1 : decode cX11_isGate 1 = .ok (.i2l, 1) := by decide +kernel
theorem dX11_isGate_2 : decode cX11_isGate 2 = .ok (.lconst 0, 1) := by decide +kernel
theorem dX11_isGate_3 : decode cX11_isGate 3 = .ok (.aload_n 0, 1) := by decide +kernel
theorem dX11_isGate_4 : decode cX11_isGate 4 = .ok (.getfield 99, 3) := by decide +kernel
theorem dX11_isGate_7 : decode cX11_isGate 7 = .ok (.iconst 1, 1) := by decide +kernel
theorem dX11_isGate_8 : decode cX11_isGate 8 = .ok (.isub, 1) := by decide +kernel
theorem dX11_isGate_9 : decode cX11_isGate 9 = .ok (.i2l, 1) := by decide +kernel
theorem dX11_isGate_10 : decode cX11_isGate 10 = .ok (.invokestatic 105, 3) := by decide +kernel
theorem dX11_isGate_13 : decode cX11_isGate 13 = .ok (.ireturn, 1) := by decide +kernel
theorem dX11_feed_0 : decode cX11_feed 0 = .ok (.iload_n 1, 1) := by decide +kernel
theorem dX11_feed_1 : decode cX11_feed 1 = .ok (.i2l, 1) := by decide +kernel
theorem dX11_feed_2 : decode cX11_feed 2 = .ok (.lconst 0, 1) := by decide +kernel
theorem dX11_feed_3 : decode cX11_feed 3 = .ok (.ldc2_w 109, 3) := by decide +kernel
theorem dX11_feed_6 : decode cX11_feed 6 = .ok (.invokestatic 105, 3) := by decide +kernel
theorem dX11_feed_9 : decode cX11_feed 9 = .ok (.ifCond .ne 6, 3) := by decide +kernel
theorem dX11_feed_12 : decode cX11_feed 12 = .ok (.ldc 111, 2) := by decide +kernel
theorem dX11_feed_14 : decode cX11_feed 14 = .ok (.ireturn, 1) := by decide +kernel
theorem dX11_feed_15 : decode cX11_feed 15 = .ok (.aload_n 0, 1) := by decide +kernel
theorem dX11_feed_16 : decode cX11_feed 16 = .ok (.getfield 112, 3) := by decide +kernel
theorem dX11_feed_19 : decode cX11_feed 19 = .ok (.sipush 240, 3) := by decide +kernel
theorem dX11_feed_22 : decode cX11_feed 22 = .ok (.if_icmp .ne 6, 3) := by decide +kernel
theorem dX11_feed_25 : decode cX11_feed 25 = .ok (.ldc 115, 2) := by decide +kernel
theorem dX11_feed_27 : decode cX11_feed 27 = .ok (.ireturn, 1) := by decide +kernel
theorem dX11_feed_28 : decode cX11_feed 28 = .ok (.aload_n 0, 1) := by decide +kernel
theorem dX11_feed_29 : decode cX11_feed 29 = .ok (.getfield 37, 3) := by decide +kernel
theorem dX11_feed_32 : decode cX11_feed 32 = .ok (.aload_n 0, 1) := by decide +kernel
theorem dX11_feed_33 : decode cX11_feed 33 = .ok (.getfield 112, 3) := by decide +kernel
theorem dX11_feed_36 : decode cX11_feed 36 = .ok (.iload_n 1, 1) := by decide +kernel
theorem dX11_feed_37 : decode cX11_feed 37 = .ok (.iastore, 1) := by decide +kernel
theorem dX11_feed_38 : decode cX11_feed 38 = .ok (.aload_n 0, 1) := by decide +kernel
theorem dX11_feed_39 : decode cX11_feed 39 = .ok (.dup, 1) := by decide +kernel
theorem dX11_feed_40 : decode cX11_feed 40 = .ok (.getfield 112, 3) := by decide +kernel
theorem dX11_feed_43 : decode cX11_feed 43 = .ok (.iconst 1, 1) := by decide +kernel
theorem dX11_feed_44 : decode cX11_feed 44 = .ok (.iadd, 1) := by decide +kernel
theorem dX11_feed_45 : decode cX11_feed 45 = .ok (.putfield 112, 3) := by decide +kernel
theorem dX11_feed_48 : decode cX11_feed 48 = .ok (.aload_n 0, 1) := by decide +kernel
theorem dX11_feed_49 : decode cX11_feed 49 = .ok (.getfield 112, 3) := by decide +kernel
theorem dX11_feed_52 : decode cX11_feed 52 = .ok (.ireturn, 1) := by decide +kernel
theorem dX11_here_0 : decode cX11_here 0 = .ok (.aload_n 0, 1) := by decide +kernel
theorem dX11_here_1 : decode cX11_here 1 = .ok (.getfield 116, 3) := by decide +kernel
theorem dX11_here_4 : decode cX11_here 4 = .ok (.aload_n 0, 1) := by decide +kernel
theorem dX11_here_5 : decode cX11_here 5 = .ok (.getfield 112, 3) := by decide +kernel
theorem dX11_here_8 : decode cX11_here 8 = .ok (.if_icmp .ge 30, 3) := by decide +kernel
theorem dX11_here_11 : decode cX11_here 11 = .ok (.aload_n 0, 1) := by decide +kernel
theorem dX11_here_12 : decode cX11_here 12 = .ok (.getfield 37, 3) := by decide +kernel
theorem dX11_here_15 : decode cX11_here 15 = .ok (.aload_n 0, 1) := by decide +kernel
theorem dX11_here_16 : decode cX11_here 16 = .ok (.getfield 116, 3) := by decide +kernel
theorem dX11_here_19 : decode cX11_here 19 = .ok (.iaload, 1) := by decide +kernel
theorem dX11_here_20 : decode cX11_here 20 = .ok (.bipush 32, 2) := by decide +kernel
theorem dX11_here_22 : decode cX11_here 22 = .ok (.if_icmp .ne 16, 3) := by decide +kernel
theorem dX11_here_25 : decode cX11_here 25 = .ok (.aload_n 0, 1) := by decide +kernel
theorem dX11_here_26 : decode cX11_here 26 = .ok (.dup, 1) := by decide +kernel
theorem dX11_here_27 : decode cX11_here 27 = .ok (.getfield 116, 3) := by decide +kernel
theorem dX11_here_30 : decode cX11_here 30 = .ok (.iconst 1, 1) := by decide +kernel
theorem dX11_here_31 : decode cX11_here 31 = .ok (.iadd, 1) := by decide +kernel
theorem dX11_here_32 : decode cX11_here 32 = .ok (.putfield 116, 3) := by decide +kernel
theorem dX11_here_35 : decode cX11_here 35 = .ok (.goto (-35), 3) := by decide +kernel
theorem dX11_here_38 : decode cX11_here 38 = .ok (.aload_n 0, 1) := by decide +kernel
theorem dX11_here_39 : decode cX11_here 39 = .ok (.getfield 116, 3) := by decide +kernel
theorem dX11_here_42 : decode cX11_here 42 = .ok (.aload_n 0, 1) := by decide +kernel
theorem dX11_here_43 : decode cX11_here 43 = .ok (.getfield 112, 3) := by decide +kernel
theorem dX11_here_46 : decode cX11_here 46 = .ok (.if_icmp .ge 15, 3) := by decide +kernel
theorem dX11_here_49 : decode cX11_here 49 = .ok (.aload_n 0, 1) := by decide +kernel
theorem dX11_here_50 : decode cX11_here 50 = .ok (.getfield 37, 3) := by decide +kernel
theorem dX11_here_53 : decode cX11_here 53 = .ok (.aload_n 0, 1) := by decide +kernel
theorem dX11_here_54 : decode cX11_here 54 = .ok (.getfield 116, 3) := by decide +kernel
theorem dX11_here_57 : decode cX11_here 57 = .ok (.iaload, 1) := by decide +kernel
theorem dX11_here_58 : decode cX11_here 58 = .ok (.goto 4, 3) := by decide +kernel
theorem dX11_here_61 : decode cX11_here 61 = .ok (.iconst (-1), 1) := by decide +kernel
theorem dX11_here_62 : decode cX11_here 62 = .ok (.ireturn, 1) := by decide +kernel
theorem dX11_fails_0 : decode cX11_fails 0 = .ok (.aload_n 0, 1) := by decide +kernel
theorem dX11_fails_1 : decode cX11_fails 1 = .ok (.iload_n 2, 1) := by decide +kernel
theorem dX11_fails_2 : decode cX11_fails 2 = .ok (.putfield 40, 3) := by decide +kernel
theorem dX11_fails_5 : decode cX11_fails 5 = .ok (.iload_n 1, 1) := by decide +kernel
theorem dX11_fails_6 : decode cX11_fails 6 = .ok (.ireturn, 1) := by decide +kernel
theorem dX11_takeNumber_0 : decode cX11_takeNumber 0 = .ok (.aload_n 0, 1) := by decide +kernel
theorem dX11_takeNumber_1 : decode cX11_takeNumber 1 = .ok (.invokevirtual 119, 3) := by decide +kernel
theorem dX11_takeNumber_4 : decode cX11_takeNumber 4 = .ok (.istore_n 3, 1) := by decide +kernel
theorem dX11_takeNumber_5 : decode cX11_takeNumber 5 = .ok (.iload_n 3, 1) := by decide +kernel
theorem dX11_takeNumber_6 : decode cX11_takeNumber 6 = .ok (.i2l, 1) := by decide +kernel
theorem dX11_takeNumber_7 : decode cX11_takeNumber 7 = .ok (.ldc2_w 123, 3) := by decide +kernel
theorem dX11_takeNumber_10 : decode cX11_takeNumber 10 = .ok (.ldc2_w 125, 3) := by decide +kernel
theorem dX11_takeNumber_13 : decode cX11_takeNumber 13 = .ok (.invokestatic 105, 3) := by decide +kernel
theorem dX11_takeNumber_16 : decode cX11_takeNumber 16 = .ok (.ifCond .ne 13, 3) := by decide +kernel
theorem dX11_takeNumber_19 : decode cX11_takeNumber 19 = .ok (.aload_n 0, 1) := by decide +kernel
theorem dX11_takeNumber_20 : decode cX11_takeNumber 20 = .ok (.iconst 1, 1) := by decide +kernel
theorem dX11_takeNumber_21 : decode cX11_takeNumber 21 = .ok (.aload_n 0, 1) := by decide +kernel
theorem dX11_takeNumber_22 : decode cX11_takeNumber 22 = .ok (.getfield 116, 3) := by decide +kernel
theorem dX11_takeNumber_25 : decode cX11_takeNumber 25 = .ok (.invokevirtual 127, 3) := by decide +kernel
theorem dX11_takeNumber_28 : decode cX11_takeNumber 28 = .ok (.ireturn, 1) := by decide +kernel
theorem dX11_takeNumber_29 : decode cX11_takeNumber 29 = .ok (.aload_n 0, 1) := by decide +kernel
theorem dX11_takeNumber_30 : decode cX11_takeNumber 30 = .ok (.getfield 116, 3) := by decide +kernel
theorem dX11_takeNumber_33 : decode cX11_takeNumber 33 = .ok (.istore 4, 2) := by decide +kernel
theorem dX11_takeNumber_35 : decode cX11_takeNumber 35 = .ok (.aload_n 0, 1) := by decide +kernel
theorem dX11_takeNumber_36 : decode cX11_takeNumber 36 = .ok (.iconst 0, 1) := by decide +kernel
theorem dX11_takeNumber_37 : decode cX11_takeNumber 37 = .ok (.putfield 131, 3) := by decide +kernel
theorem dX11_takeNumber_40 : decode cX11_takeNumber 40 = .ok (.aload_n 0, 1) := by decide +kernel
theorem dX11_takeNumber_41 : decode cX11_takeNumber 41 = .ok (.getfield 116, 3) := by decide +kernel
theorem dX11_takeNumber_44 : decode cX11_takeNumber 44 = .ok (.aload_n 0, 1) := by decide +kernel
theorem dX11_takeNumber_45 : decode cX11_takeNumber 45 = .ok (.getfield 112, 3) := by decide +kernel
theorem dX11_takeNumber_48 : decode cX11_takeNumber 48 = .ok (.if_icmp .ge 79, 3) := by decide +kernel
theorem dX11_takeNumber_51 : decode cX11_takeNumber 51 = .ok (.aload_n 0, 1) := by decide +kernel
theorem dX11_takeNumber_52 : decode cX11_takeNumber 52 = .ok (.getfield 37, 3) := by decide +kernel
theorem dX11_takeNumber_55 : decode cX11_takeNumber 55 = .ok (.aload_n 0, 1) := by decide +kernel
theorem dX11_takeNumber_56 : decode cX11_takeNumber 56 = .ok (.getfield 116, 3) := by decide +kernel
theorem dX11_takeNumber_59 : decode cX11_takeNumber 59 = .ok (.iaload, 1) := by decide +kernel
theorem dX11_takeNumber_60 : decode cX11_takeNumber 60 = .ok (.i2l, 1) := by decide +kernel
theorem dX11_takeNumber_61 : decode cX11_takeNumber 61 = .ok (.ldc2_w 123, 3) := by decide +kernel
theorem dX11_takeNumber_64 : decode cX11_takeNumber 64 = .ok (.ldc2_w 125, 3) := by decide +kernel
theorem dX11_takeNumber_67 : decode cX11_takeNumber 67 = .ok (.invokestatic 105, 3) := by decide +kernel
theorem dX11_takeNumber_70 : decode cX11_takeNumber 70 = .ok (.ifCond .eq 57, 3) := by decide +kernel
theorem dX11_takeNumber_73 : decode cX11_takeNumber 73 = .ok (.aload_n 0, 1) := by decide +kernel
theorem dX11_takeNumber_74 : decode cX11_takeNumber 74 = .ok (.aload_n 0, 1) := by decide +kernel
theorem dX11_takeNumber_75 : decode cX11_takeNumber 75 = .ok (.getfield 131, 3) := by decide +kernel
theorem dX11_takeNumber_78 : decode cX11_takeNumber 78 = .ok (.sipush 10000, 3) := by decide +kernel
theorem dX11_takeNumber_81 : decode cX11_takeNumber 81 = .ok (.if_icmp .le 10, 3) := by decide +kernel
theorem dX11_takeNumber_84 : decode cX11_takeNumber 84 = .ok (.aload_n 0, 1) := by decide +kernel
theorem dX11_takeNumber_85 : decode cX11_takeNumber 85 = .ok (.getfield 131, 3) := by decide +kernel
theorem dX11_takeNumber_88 : decode cX11_takeNumber 88 = .ok (.goto 23, 3) := by decide +kernel
theorem dX11_takeNumber_91 : decode cX11_takeNumber 91 = .ok (.bipush 10, 2) := by decide +kernel
theorem dX11_takeNumber_93 : decode cX11_takeNumber 93 = .ok (.aload_n 0, 1) := by decide +kernel
theorem dX11_takeNumber_94 : decode cX11_takeNumber 94 = .ok (.getfield 131, 3) := by decide +kernel
theorem dX11_takeNumber_97 : decode cX11_takeNumber 97 = .ok (.imul, 1) := by decide +kernel
theorem dX11_takeNumber_98 : decode cX11_takeNumber 98 = .ok (.aload_n 0, 1) := by decide +kernel
theorem dX11_takeNumber_99 : decode cX11_takeNumber 99 = .ok (.getfield 37, 3) := by decide +kernel
theorem dX11_takeNumber_102 : decode cX11_takeNumber 102 = .ok (.aload_n 0, 1) := by decide +kernel
theorem dX11_takeNumber_103 : decode cX11_takeNumber 103 = .ok (.getfield 116, 3) := by decide +kernel
theorem dX11_takeNumber_106 : decode cX11_takeNumber 106 = .ok (.iaload, 1) := by decide +kernel
theorem dX11_takeNumber_107 : decode cX11_takeNumber 107 = .ok (.iadd, 1) := by decide +kernel
theorem dX11_takeNumber_108 : decode cX11_takeNumber 108 = .ok (.bipush 48, 2) := by decide +kernel
