theorem dX0_init_0 : decode cX0_init 0 = .ok (.aload_n 0, 1) := by decide +kernel
theorem dX0_init_1 : decode cX0_init 1 = .ok (.invokespecial 3, 3) := by decide +kernel
theorem dX0_init_4 : decode cX0_init 4 = .ok (.aload_n 0, 1) := by decide +kernel
theorem dX0_init_5 : decode cX0_init 5 = .ok (.bipush 15, 2) := by decide +kernel
theorem dX0_init_7 : decode cX0_init 7 = .ok (.newarray .int, 2) := by decide +kernel
theorem dX0_init_9 : decode cX0_init 9 = .ok (.putfield 9, 3) := by decide +kernel
theorem dX0_init_12 : decode cX0_init 12 = .ok (.aload_n 0, 1) := by decide +kernel
theorem dX0_init_13 : decode cX0_init 13 = .ok (.bipush 15, 2) := by decide +kernel
theorem dX0_init_15 : decode cX0_init 15 = .ok (.newarray .int, 2) := by decide +kernel
theorem dX0_init_17 : decode cX0_init 17 = .ok (.putfield 15, 3) := by decide +kernel
theorem dX0_init_20 : decode cX0_init 20 = .ok (.return_, 1) := by decide +kernel
theorem dX0_add_0 : decode cX0_add 0 = .ok (.aload_n 0, 1) := by decide +kernel
theorem dX0_add_1 : decode cX0_add 1 = .ok (.getfield 18, 3) := by decide +kernel
theorem dX0_add_4 : decode cX0_add 4 = .ok (.bipush 15, 2) := by decide +kernel
theorem dX0_add_6 : decode cX0_add 6 = .ok (.if_icmp .lt 5, 3) := by decide +kernel
theorem dX0_add_9 : decode cX0_add 9 = .ok (.iconst 0, 1) := by decide +kernel
theorem dX0_add_10 : decode cX0_add 10 = .ok (.ireturn, 1) := by decide +kernel
theorem dX0_add_11 : decode cX0_add 11 = .ok (.aload_n 0, 1) := by decide +kernel
theorem dX0_add_12 : decode cX0_add 12 = .ok (.getfield 9, 3) := by decide +kernel
theorem dX0_add_15 : decode cX0_add 15 = .ok (.aload_n 0, 1) := by decide +kernel
theorem dX0_add_16 : decode cX0_add 16 = .ok (.getfield 18, 3) := by decide +kernel
theorem dX0_add_19 : decode cX0_add 19 = .ok (.iload_n 1, 1) := by decide +kernel
theorem dX0_add_20 : decode cX0_add 20 = .ok (.iastore, 1) := by decide +kernel
theorem dX0_add_21 : decode cX0_add 21 = .ok (.aload_n 0, 1) := by decide +kernel
theorem dX0_add_22 : decode cX0_add 22 = .ok (.getfield 15, 3) := by decide +kernel
theorem dX0_add_25 : decode cX0_add 25 = .ok (.aload_n 0, 1) := by decide +kernel
theorem dX0_add_26 : decode cX0_add 26 = .ok (.getfield 18, 3) := by decide +kernel
theorem dX0_add_29 : decode cX0_add 29 = .ok (.iload_n 2, 1) := by decide +kernel
theorem dX0_add_30 : decode cX0_add 30 = .ok (.iastore, 1) := by decide +kernel
theorem dX0_add_31 : decode cX0_add 31 = .ok (.aload_n 0, 1) := by decide +kernel
theorem dX0_add_32 : decode cX0_add 32 = .ok (.dup, 1) := by decide +kernel
theorem dX0_add_33 : decode cX0_add 33 = .ok (.getfield 18, 3) := by decide +kernel
theorem dX0_add_36 : decode cX0_add 36 = .ok (.iconst 1, 1) := by decide +kernel
theorem dX0_add_37 : decode cX0_add 37 = .ok (.iadd, 1) := by decide +kernel
theorem dX0_add_38 : decode cX0_add 38 = .ok (.putfield 18, 3) := by decide +kernel
theorem dX0_add_41 : decode cX0_add 41 = .ok (.iconst 1, 1) := by decide +kernel
theorem dX0_add_42 : decode cX0_add 42 = .ok (.ireturn, 1) := by decide +kernel
theorem dX0_clear_0 : decode cX0_clear 0 = .ok (.aload_n 0, 1) := by decide +kernel
theorem dX0_clear_1 : decode cX0_clear 1 = .ok (.iconst 0, 1) := by decide +kernel
theorem dX0_clear_2 : decode cX0_clear 2 = .ok (.putfield 18, 3) := by decide +kernel
theorem dX0_clear_5 : decode cX0_clear 5 = .ok (.return_, 1) := by decide +kernel
theorem dX0_firstFalse_0 : decode cX0_firstFalse 0 = .ok (.iconst 0, 1) := by decide +kernel
theorem dX0_firstFalse_1 : decode cX0_firstFalse 1 = .ok (.istore_n 2, 1) := by decide +kernel
theorem dX0_firstFalse_2 : decode cX0_firstFalse 2 = .ok (.iload_n 2, 1) := by decide +kernel
theorem dX0_firstFalse_3 : decode cX0_firstFalse 3 = .ok (.aload_n 0, 1) := by decide +kernel
theorem dX0_firstFalse_4 : decode cX0_firstFalse 4 = .ok (.getfield 18, 3) := by decide +kernel
theorem dX0_firstFalse_7 : decode cX0_firstFalse 7 = .ok (.if_icmp .ge 31, 3) := by decide +kernel
theorem dX0_firstFalse_10 : decode cX0_firstFalse 10 = .ok (.aload_n 1, 1) := by decide +kernel
theorem dX0_firstFalse_11 : decode cX0_firstFalse 11 = .ok (.getfield 22, 3) := by decide +kernel
theorem dX0_firstFalse_14 : decode cX0_firstFalse 14 = .ok (.aload_n 0, 1) := by decide +kernel
theorem dX0_firstFalse_15 : decode cX0_firstFalse 15 = .ok (.getfield 9, 3) := by decide +kernel
theorem dX0_firstFalse_18 : decode cX0_firstFalse 18 = .ok (.iload_n 2, 1) := by decide +kernel
theorem dX0_firstFalse_19 : decode cX0_firstFalse 19 = .ok (.iaload, 1) := by decide +kernel
theorem dX0_firstFalse_20 : decode cX0_firstFalse 20 = .ok (.iaload, 1) := by decide +kernel
theorem dX0_firstFalse_21 : decode cX0_firstFalse 21 = .ok (.aload_n 0, 1) := by decide +kernel
theorem dX0_firstFalse_22 : decode cX0_firstFalse 22 = .ok (.getfield 15, 3) := by decide +kernel
theorem dX0_firstFalse_25 : decode cX0_firstFalse 25 = .ok (.iload_n 2, 1) := by decide +kernel
theorem dX0_firstFalse_26 : decode cX0_firstFalse 26 = .ok (.iaload, 1) := by decide +kernel
theorem dX0_firstFalse_27 : decode cX0_firstFalse 27 = .ok (.if_icmp .eq 5, 3) := by decide +kernel
theorem dX0_firstFalse_30 : decode cX0_firstFalse 30 = .ok (.iload_n 2, 1) := by decide +kernel
theorem dX0_firstFalse_31 : decode cX0_firstFalse 31 = .ok (.ireturn, 1) := by decide +kernel
theorem dX0_firstFalse_32 : decode cX0_firstFalse 32 = .ok (.iinc 2 1, 3) := by decide +kernel
theorem dX0_firstFalse_35 : decode cX0_firstFalse 35 = .ok (.goto (-33), 3) := by decide +kernel
theorem dX0_firstFalse_38 : decode cX0_firstFalse 38 = .ok (.iconst (-1), 1) := by decide +kernel
theorem dX0_firstFalse_39 : decode cX0_firstFalse 39 = .ok (.ireturn, 1) := by decide +kernel
theorem dX1_init_0 : decode cX1_init 0 = .ok (.aload_n 0, 1) := by decide +kernel
theorem dX1_init_1 : decode cX1_init 1 = .ok (.invokespecial 1, 3) := by decide +kernel
theorem dX1_init_4 : decode cX1_init 4 = .ok (.return_, 1) := by decide +kernel
theorem dX1_next_0 : decode cX1_next 0 = .ok (.iload_n 1, 1) := by decide +kernel
theorem dX1_next_1 : decode cX1_next 1 = .ok (.ifCond .gt 5, 3) := by decide +kernel
theorem dX1_next_4 : decode cX1_next 4 = .ok (.iconst 0, 1) := by decide +kernel
theorem dX1_next_5 : decode cX1_next 5 = .ok (.ireturn, 1) := by decide +kernel
theorem dX1_next_6 : decode cX1_next 6 = .ok (.aload_n 0, 1) := by decide +kernel
theorem dX1_next_7 : decode cX1_next 7 = .ok (.aload_n 0, 1) := by decide +kernel
theorem dX1_next_8 : decode cX1_next 8 = .ok (.getfield 7, 3) := by decide +kernel
theorem dX1_next_11 : decode cX1_next 11 = .ok (.i2l, 1) := by decide +kernel
theorem dX1_next_12 : decode cX1_next 12 = .ok (.ldc2_w 13, 3) := by decide +kernel
theorem dX1_next_15 : decode cX1_next 15 = .ok (.lmul, 1) := by decide +kernel
theorem dX1_next_16 : decode cX1_next 16 = .ok (.ldc2_w 15, 3) := by decide +kernel
theorem dX1_next_19 : decode cX1_next 19 = .ok (.ladd, 1) := by decide +kernel
theorem dX1_next_20 : decode cX1_next 20 = .ok (.ldc2_w 17, 3) := by decide +kernel
theorem dX1_next_23 : decode cX1_next 23 = .ok (.land, 1) := by decide +kernel
theorem dX1_next_24 : decode cX1_next 24 = .ok (.l2i, 1) := by decide +kernel
theorem dX1_next_25 : decode cX1_next 25 = .ok (.putfield 7, 3) := by decide +kernel
theorem dX1_next_28 : decode cX1_next 28 = .ok (.aload_n 0, 1) := by decide +kernel
theorem dX1_next_29 : decode cX1_next 29 = .ok (.getfield 7, 3) := by decide +kernel
theorem dX1_next_32 : decode cX1_next 32 = .ok (.ldc 19, 2) := by decide +kernel
theorem dX1_next_34 : decode cX1_next 34 = .ok (.idiv, 1) := by decide +kernel
theorem dX1_next_35 : decode cX1_next 35 = .ok (.iload_n 1, 1) := by decide +kernel
theorem dX1_next_36 : decode cX1_next 36 = .ok (.irem, 1) := by decide +kernel
theorem dX1_next_37 : decode cX1_next 37 = .ok (.ireturn, 1) := by decide +kernel
theorem dX2_init_0 : decode cX2_init 0 = .ok (.aload_n 0, 1) := by decide +kernel
theorem dX2_init_1 : decode cX2_init 1 = .ok (.invokespecial 3, 3) := by decide +kernel
theorem dX2_init_4 : decode cX2_init 4 = .ok (.aload_n 0, 1) := by decide +kernel
theorem dX2_init_5 : decode cX2_init 5 = .ok (.iconst 2, 1) := by decide +kernel
theorem dX2_init_6 : decode cX2_init 6 = .ok (.anewarray 9, 3) := by decide +kernel
theorem dX2_init_9 : decode cX2_init 9 = .ok (.putfield 11, 3) := by decide +kernel
theorem dX2_init_12 : decode cX2_init 12 = .ok (.aload_n 0, 1) := by decide +kernel
theorem dX2_init_13 : decode cX2_init 13 = .ok (.iconst 2, 1) := by decide +kernel
theorem dX2_init_14 : decode cX2_init 14 = .ok (.newarray .int, 2) := by decide +kernel
theorem dX2_init_16 : decode cX2_init 16 = .ok (.putfield 17, 3) := by decide +kernel
theorem dX2_init_19 : decode cX2_init 19 = .ok (.aload_n 0, 1) := by decide +kernel
theorem dX2_init_20 : decode cX2_init 20 = .ok (.iconst 2, 1) := by decide +kernel
theorem dX2_init_21 : decode cX2_init 21 = .ok (.newarray .boolean, 2) := by decide +kernel
theorem dX2_init_23 : decode cX2_init 23 = .ok (.putfield 21, 3) := by decide +kernel
theorem dX2_init_26 : decode cX2_init 26 = .ok (.iconst 0, 1) := by decide +kernel
theorem dX2_init_27 : decode cX2_init 27 = .ok (.istore_n 2, 1) := by decide +kernel
theorem dX2_init_28 : decode cX2_init 28 = .ok (.iload_n 2, 1) := by decide +kernel
theorem dX2_init_29 : decode cX2_init 29 = .ok (.iconst 2, 1) := by decide +kernel
theorem dX2_init_30 : decode cX2_init 30 = .ok (.if_icmp .ge 23, 3) := by decide +kernel
theorem dX2_init_33 : decode cX2_init 33 = .ok (.aload_n 0, 1) := by decide +kernel
theorem dX2_init_34 : decode cX2_init 34 = .ok (.getfield 11, 3) := by decide +kernel
theorem dX2_init_37 : decode cX2_init 37 = .ok (.iload_n 2, 1) := by decide +kernel
theorem dX2_init_38 : decode cX2_init 38 = .ok (.new 9, 3) := by decide +kernel
theorem dX2_init_41 : decode cX2_init 41 = .ok (.dup, 1) := by decide +kernel
theorem dX2_init_42 : decode cX2_init 42 = .ok (.aload_n 1, 1) := by decide +kernel
theorem dX2_init_43 : decode cX2_init 43 = .ok (.invokespecial 25, 3) := by decide +kernel
theorem dX2_init_46 : decode cX2_init 46 = .ok (.aastore, 1) := by decide +kernel
theorem dX2_init_47 : decode cX2_init 47 = .ok (.iinc 2 1, 3) := by decide +kernel
theorem dX2_init_50 : decode cX2_init 50 = .ok (.goto (-22), 3) := by decide +kernel
theorem dX2_init_53 : decode cX2_init 53 = .ok (.return_, 1) := by decide +kernel
theorem dX2_isImage_0 : decode cX2_isImage 0 = .ok (.iload_n 1, 1) := by decide +kernel
theorem dX2_isImage_1 : decode cX2_isImage 1 = .ok (.ifCond .lt 12, 3) := by decide +kernel
theorem dX2_isImage_4 : decode cX2_isImage 4 = .ok (.iload_n 1, 1) := by decide +kernel
theorem dX2_isImage_5 : decode cX2_isImage 5 = .ok (.iconst 2, 1) := by decide +kernel
theorem dX2_isImage_6 : decode cX2_isImage 6 = .ok (.if_icmp .ge 7, 3) := by decide +kernel
theorem dX2_isImage_9 : decode cX2_isImage 9 = .ok (.iconst 1, 1) := by decide +kernel
theorem dX2_isImage_10 : decode cX2_isImage 10 = .ok (.goto 4, 3) := by decide +kernel
theorem dX2_isImage_13 : decode cX2_isImage 13 = .ok (.iconst 0, 1) := by decide +kernel
theorem dX2_isImage_14 : decode cX2_isImage 14 = .ok (.ireturn, 1) := by decide +kernel
theorem dX2_isTaken_0 : decode cX2_isTaken 0 = .ok (.aload_n 0, 1) := by decide +kernel
theorem dX2_isTaken_1 : decode cX2_isTaken 1 = .ok (.getfield 21, 3) := by decide +kernel
theorem dX2_isTaken_4 : decode cX2_isTaken 4 = .ok (.iload_n 1, 1) := by decide +kernel
theorem dX2_isTaken_5 : decode cX2_isTaken 5 = .ok (.baload, 1) := by decide +kernel
theorem dX2_isTaken_6 : decode cX2_isTaken 6 = .ok (.ireturn, 1) := by decide +kernel
theorem dX2_take_0 : decode cX2_take 0 = .ok (.aload_n 0, 1) := by decide +kernel
theorem dX2_take_1 : decode cX2_take 1 = .ok (.getfield 11, 3) := by decide +kernel
theorem dX2_take_4 : decode cX2_take 4 = .ok (.iload_n 1, 1) := by decide +kernel
theorem dX2_take_5 : decode cX2_take 5 = .ok (.aaload, 1) := by decide +kernel
theorem dX2_take_6 : decode cX2_take 6 = .ok (.aload_n 2, 1) := by decide +kernel
theorem dX2_take_7 : decode cX2_take 7 = .ok (.invokevirtual 28, 3) := by decide +kernel
theorem dX2_take_10 : decode cX2_take 10 = .ok (.aload_n 0, 1) := by decide +kernel
theorem dX2_take_11 : decode cX2_take 11 = .ok (.getfield 17, 3) := by decide +kernel
theorem dX2_take_14 : decode cX2_take 14 = .ok (.iload_n 1, 1) := by decide +kernel
theorem dX2_take_15 : decode cX2_take 15 = .ok (.aload_n 3, 1) := by decide +kernel
theorem dX2_take_16 : decode cX2_take 16 = .ok (.getfield 32, 3) := by decide +kernel
theorem dX2_take_19 : decode cX2_take 19 = .ok (.iastore, 1) := by decide +kernel
theorem dX2_take_20 : decode cX2_take 20 = .ok (.aload_n 0, 1) := by decide +kernel
theorem dX2_take_21 : decode cX2_take 21 = .ok (.getfield 21, 3) := by decide +kernel
theorem dX2_take_24 : decode cX2_take 24 = .ok (.iload_n 1, 1) := by decide +kernel
theorem dX2_take_25 : decode cX2_take 25 = .ok (.iconst 1, 1) := by decide +kernel
theorem dX2_take_26 : decode cX2_take 26 = .ok (.bastore, 1) := by decide +kernel
theorem dX2_take_27 : decode cX2_take 27 = .ok (.return_, 1) := by decide +kernel
theorem dX2_bringBack_0 : decode cX2_bringBack 0 = .ok (.aload_n 2, 1) := by decide +kernel
theorem dX2_bringBack_1 : decode cX2_bringBack 1 = .ok (.aload_n 0, 1) := by decide +kernel
theorem dX2_bringBack_2 : decode cX2_bringBack 2 = .ok (.getfield 11, 3) := by decide +kernel
theorem dX2_bringBack_5 : decode cX2_bringBack 5 = .ok (.iload_n 1, 1) := by decide +kernel
theorem dX2_bringBack_6 : decode cX2_bringBack 6 = .ok (.aaload, 1) := by decide +kernel
theorem dX2_bringBack_7 : decode cX2_bringBack 7 = .ok (.invokevirtual 28, 3) := by decide +kernel
theorem dX2_bringBack_10 : decode cX2_bringBack 10 = .ok (.aload_n 3, 1) := by decide +kernel
theorem dX2_bringBack_11 : decode cX2_bringBack 11 = .ok (.aload_n 0, 1) := by decide +kernel
theorem dX2_bringBack_12 : decode cX2_bringBack 12 = .ok (.getfield 17, 3) := by decide +kernel
theorem dX2_bringBack_15 : decode cX2_bringBack 15 = .ok (.iload_n 1, 1) := by decide +kernel
theorem dX2_bringBack_16 : decode cX2_bringBack 16 = .ok (.iaload, 1) := by decide +kernel
theorem dX2_bringBack_17 : decode cX2_bringBack 17 = .ok (.putfield 32, 3) := by decide +kernel
theorem dX2_bringBack_20 : decode cX2_bringBack 20 = .ok (.return_, 1) := by decide +kernel
theorem dX2_forget_0 : decode cX2_forget 0 = .ok (.iconst 0, 1) := by decide +kernel
theorem dX2_forget_1 : decode cX2_forget 1 = .ok (.istore_n 1, 1) := by decide +kernel
theorem dX2_forget_2 : decode cX2_forget 2 = .ok (.iload_n 1, 1) := by decide +kernel
theorem dX2_forget_3 : decode cX2_forget 3 = .ok (.iconst 2, 1) := by decide +kernel
theorem dX2_forget_4 : decode cX2_forget 4 = .ok (.if_icmp .ge 16, 3) := by decide +kernel
theorem dX2_forget_7 : decode cX2_forget 7 = .ok (.aload_n 0, 1) := by decide +kernel
theorem dX2_forget_8 : decode cX2_forget 8 = .ok (.getfield 21, 3) := by decide +kernel
theorem dX2_forget_11 : decode cX2_forget 11 = .ok (.iload_n 1, 1) := by decide +kernel
theorem dX2_forget_12 : decode cX2_forget 12 = .ok (.iconst 0, 1) := by decide +kernel
theorem dX2_forget_13 : decode cX2_forget 13 = .ok (.bastore, 1) := by decide +kernel
theorem dX2_forget_14 : decode cX2_forget 14 = .ok (.iinc 1 1, 3) := by decide +kernel
theorem dX2_forget_17 : decode cX2_forget 17 = .ok (.goto (-15), 3) := by decide +kernel
theorem dX2_forget_20 : decode cX2_forget 20 = .ok (.return_, 1) := by decide +kernel
theorem dX3_init_0 : decode cX3_init 0 = .ok (.aload_n 0, 1) := by decide +kernel
theorem dX3_init_1 : decode cX3_init 1 = .ok (.invokespecial 3, 3) := by decide +kernel
theorem dX3_init_4 : decode cX3_init 4 = .ok (.aload_n 0, 1) := by decide +kernel
theorem dX3_init_5 : decode cX3_init 5 = .ok (.bipush 16, 2) := by decide +kernel
theorem dX3_init_7 : decode cX3_init 7 = .ok (.anewarray 9, 3) := by decide +kernel
theorem dX3_init_10 : decode cX3_init 10 = .ok (.putfield 11, 3) := by decide +kernel
theorem dX3_init_13 : decode cX3_init 13 = .ok (.iconst 0, 1) := by decide +kernel
theorem dX3_init_14 : decode cX3_init 14 = .ok (.istore_n 2, 1) := by decide +kernel
theorem dX3_init_15 : decode cX3_init 15 = .ok (.iload_n 2, 1) := by decide +kernel
theorem dX3_init_16 : decode cX3_init 16 = .ok (.bipush 16, 2) := by decide +kernel
theorem dX3_init_18 : decode cX3_init 18 = .ok (.if_icmp .ge 23, 3) := by decide +kernel
theorem dX3_init_21 : decode cX3_init 21 = .ok (.aload_n 0, 1) := by decide +kernel
theorem dX3_init_22 : decode cX3_init 22 = .ok (.getfield 11, 3) := by decide +kernel
theorem dX3_init_25 : decode cX3_init 25 = .ok (.iload_n 2, 1) := by decide +kernel
theorem dX3_init_26 : decode cX3_init 26 = .ok (.new 9, 3) := by decide +kernel
theorem dX3_init_29 : decode cX3_init 29 = .ok (.dup, 1) := by decide +kernel
theorem dX3_init_30 : decode cX3_init 30 = .ok (.aload_n 1, 1) := by decide +kernel
theorem dX3_init_31 : decode cX3_init 31 = .ok (.invokespecial 17, 3) := by decide +kernel
theorem dX3_init_34 : decode cX3_init 34 = .ok (.aastore, 1) := by decide +kernel
theorem dX3_init_35 : decode cX3_init 35 = .ok (.iinc 2 1, 3) := by decide +kernel
theorem dX3_init_38 : decode cX3_init 38 = .ok (.goto (-23), 3) := by decide +kernel
theorem dX3_init_41 : decode cX3_init 41 = .ok (.return_, 1) := by decide +kernel
theorem dX3_remember_0 : decode cX3_remember 0 = .ok (.aload_n 0, 1) := by decide +kernel
theorem dX3_remember_1 : decode cX3_remember 1 = .ok (.getfield 11, 3) := by decide +kernel
theorem dX3_remember_4 : decode cX3_remember 4 = .ok (.aload_n 0, 1) := by decide +kernel
theorem dX3_remember_5 : decode cX3_remember 5 = .ok (.getfield 20, 3) := by decide +kernel
theorem dX3_remember_8 : decode cX3_remember 8 = .ok (.aaload, 1) := by decide +kernel
theorem dX3_remember_9 : decode cX3_remember 9 = .ok (.aload_n 1, 1) := by decide +kernel
theorem dX3_remember_10 : decode cX3_remember 10 = .ok (.invokevirtual 24, 3) := by decide +kernel
theorem dX3_remember_13 : decode cX3_remember 13 = .ok (.aload_n 0, 1) := by decide +kernel
theorem dX3_remember_14 : decode cX3_remember 14 = .ok (.aload_n 0, 1) := by decide +kernel
theorem dX3_remember_15 : decode cX3_remember 15 = .ok (.getfield 20, 3) := by decide +kernel
theorem dX3_remember_18 : decode cX3_remember 18 = .ok (.iconst 1, 1) := by decide +kernel
theorem dX3_remember_19 : decode cX3_remember 19 = .ok (.iadd, 1) := by decide +kernel
theorem dX3_remember_20 : decode cX3_remember 20 = .ok (.bipush 16, 2) := by decide +kernel
theorem dX3_remember_22 : decode cX3_remember 22 = .ok (.irem, 1) := by decide +kernel
theorem dX3_remember_23 : decode cX3_remember 23 = .ok (.putfield 20, 3) := by decide +kernel
theorem dX3_remember_26 : decode cX3_remember 26 = .ok (.aload_n 0, 1) := by decide +kernel
theorem dX3_remember_27 : decode cX3_remember 27 = .ok (.aload_n 0, 1) := by decide +kernel
theorem dX3_remember_28 : decode cX3_remember 28 = .ok (.getfield 28, 3) := by decide +kernel
theorem dX3_remember_31 : decode cX3_remember 31 = .ok (.iconst 1, 1) := by decide +kernel
theorem dX3_remember_32 : decode cX3_remember 32 = .ok (.iadd, 1) := by decide +kernel
theorem dX3_remember_33 : decode cX3_remember 33 = .ok (.bipush 16, 2) := by decide +kernel
theorem dX3_remember_35 : decode cX3_remember 35 = .ok (.invokestatic 31, 3) := by decide +kernel
theorem dX3_remember_38 : decode cX3_remember 38 = .ok (.putfield 28, 3) := by decide +kernel
theorem dX3_remember_41 : decode cX3_remember 41 = .ok (.return_, 1) := by decide +kernel
theorem dX3_takeBack_0 : decode cX3_takeBack 0 = .ok (.aload_n 0, 1) := by decide +kernel
theorem dX3_takeBack_1 : decode cX3_takeBack 1 = .ok (.getfield 28, 3) := by decide +kernel
theorem dX3_takeBack_4 : decode cX3_takeBack 4 = .ok (.ifCond .ne 4, 3) := by decide +kernel
theorem dX3_takeBack_7 : decode cX3_takeBack 7 = .ok (.return_, 1) := by decide +kernel
theorem dX3_takeBack_8 : decode cX3_takeBack 8 = .ok (.aload_n 0, 1) := by decide +kernel
theorem dX3_takeBack_9 : decode cX3_takeBack 9 = .ok (.aload_n 0, 1) := by decide +kernel
theorem dX3_takeBack_10 : decode cX3_takeBack 10 = .ok (.getfield 20, 3) := by decide +kernel
theorem dX3_takeBack_13 : decode cX3_takeBack 13 = .ok (.bipush 16, 2) := by decide +kernel
theorem dX3_takeBack_15 : decode cX3_takeBack 15 = .ok (.iadd, 1) := by decide +kernel
theorem dX3_takeBack_16 : decode cX3_takeBack 16 = .ok (.iconst 1, 1) := by decide +kernel
theorem dX3_takeBack_17 : decode cX3_takeBack 17 = .ok (.isub, 1) := by decide +kernel
theorem dX3_takeBack_18 : decode cX3_takeBack 18 = .ok (.bipush 16, 2) := by decide +kernel
theorem dX3_takeBack_20 : decode cX3_takeBack 20 = .ok (.irem, 1) := by decide +kernel
theorem dX3_takeBack_21 : decode cX3_takeBack 21 = .ok (.putfield 20, 3) := by decide +kernel
theorem dX3_takeBack_24 : decode cX3_takeBack 24 = .ok (.aload_n 0, 1) := by decide +kernel
theorem dX3_takeBack_25 : decode cX3_takeBack 25 = .ok (.dup, 1) := by decide +kernel
theorem dX3_takeBack_26 : decode cX3_takeBack 26 = .ok (.getfield 28, 3) := by decide +kernel
theorem dX3_takeBack_29 : decode cX3_takeBack 29 = .ok (.iconst 1, 1) := by decide +kernel
theorem dX3_takeBack_30 : decode cX3_takeBack 30 = .ok (.isub, 1) := by decide +kernel
theorem dX3_takeBack_31 : decode cX3_takeBack 31 = .ok (.putfield 28, 3) := by decide +kernel
theorem dX3_takeBack_34 : decode cX3_takeBack 34 = .ok (.aload_n 1, 1) := by decide +kernel
theorem dX3_takeBack_35 : decode cX3_takeBack 35 = .ok (.aload_n 0, 1) := by decide +kernel
theorem dX3_takeBack_36 : decode cX3_takeBack 36 = .ok (.getfield 11, 3) := by decide +kernel
theorem dX3_takeBack_39 : decode cX3_takeBack 39 = .ok (.aload_n 0, 1) := by decide +kernel
theorem dX3_takeBack_40 : decode cX3_takeBack 40 = .ok (.getfield 20, 3) := by decide +kernel
theorem dX3_takeBack_43 : decode cX3_takeBack 43 = .ok (.aaload, 1) := by decide +kernel
theorem dX3_takeBack_44 : decode cX3_takeBack 44 = .ok (.invokevirtual 24, 3) := by decide +kernel
theorem dX3_takeBack_47 : decode cX3_takeBack 47 = .ok (.return_, 1) := by decide +kernel
theorem dX3_forget_0 : decode cX3_forget 0 = .ok (.aload_n 0, 1) := by decide +kernel
theorem dX3_forget_1 : decode cX3_forget 1 = .ok (.iconst 0, 1) := by decide +kernel
theorem dX3_forget_2 : decode cX3_forget 2 = .ok (.putfield 28, 3) := by decide +kernel
theorem dX3_forget_5 : decode cX3_forget 5 = .ok (.return_, 1) := by decide +kernel
theorem dX4_init_0 : decode cX4_init 0 = .ok (.aload_n 0, 1) := by decide +kernel
theorem dX4_init_1 : decode cX4_init 1 = .ok (.invokespecial 3, 3) := by decide +kernel
theorem dX4_init_4 : decode cX4_init 4 = .ok (.aload_n 0, 1) := by decide +kernel
theorem dX4_init_5 : decode cX4_init 5 = .ok (.iconst 4, 1) := by decide +kernel
theorem dX4_init_6 : decode cX4_init 6 = .ok (.newarray .int, 2) := by decide +kernel
theorem dX4_init_8 : decode cX4_init 8 = .ok (.putfield 9, 3) := by decide +kernel
theorem dX4_init_11 : decode cX4_init 11 = .ok (.aload_n 0, 1) := by decide +kernel
theorem dX4_init_12 : decode cX4_init 12 = .ok (.iconst 4, 1) := by decide +kernel
theorem dX4_init_13 : decode cX4_init 13 = .ok (.newarray .int, 2) := by decide +kernel
theorem dX4_init_15 : decode cX4_init 15 = .ok (.putfield 15, 3) := by decide +kernel
theorem dX4_init_18 : decode cX4_init 18 = .ok (.aload_n 0, 1) := by decide +kernel
theorem dX4_init_19 : decode cX4_init 19 = .ok (.iconst 4, 1) := by decide +kernel
theorem dX4_init_20 : decode cX4_init 20 = .ok (.newarray .int, 2) := by decide +kernel
theorem dX4_init_22 : decode cX4_init 22 = .ok (.putfield 18, 3) := by decide +kernel
theorem dX4_init_25 : decode cX4_init 25 = .ok (.aload_n 0, 1) := by decide +kernel
theorem dX4_init_26 : decode cX4_init 26 = .ok (.iconst 5, 1) := by decide +kernel
theorem dX4_init_27 : decode cX4_init 27 = .ok (.newarray .int, 2) := by decide +kernel
theorem dX4_init_29 : decode cX4_init 29 = .ok (.putfield 21, 3) := by decide +kernel
theorem dX4_init_32 : decode cX4_init 32 = .ok (.aload_n 0, 1) := by decide +kernel
theorem dX4_init_33 : decode cX4_init 33 = .ok (.iconst 5, 1) := by decide +kernel
theorem dX4_init_34 : decode cX4_init 34 = .ok (.newarray .int, 2) := by decide +kernel
theorem dX4_init_36 : decode cX4_init 36 = .ok (.putfield 24, 3) := by decide +kernel
theorem dX4_init_39 : decode cX4_init 39 = .ok (.aload_n 0, 1) := by decide +kernel
theorem dX4_init_40 : decode cX4_init 40 = .ok (.iconst 5, 1) := by decide +kernel
theorem dX4_init_41 : decode cX4_init 41 = .ok (.newarray .int, 2) := by decide +kernel
theorem dX4_init_43 : decode cX4_init 43 = .ok (.putfield 27, 3) := by decide +kernel
theorem dX4_init_46 : decode cX4_init 46 = .ok (.aload_n 0, 1) := by decide +kernel
theorem dX4_init_47 : decode cX4_init 47 = .ok (.iconst 5, 1) := by decide +kernel
theorem dX4_init_48 : decode cX4_init 48 = .ok (.newarray .int, 2) := by decide +kernel
theorem dX4_init_50 : decode cX4_init 50 = .ok (.putfield 30, 3) := by decide +kernel
theorem dX4_init_53 : decode cX4_init 53 = .ok (.aload_n 0, 1) := by decide +kernel
theorem dX4_init_54 : decode cX4_init 54 = .ok (.iconst 5, 1) := by decide +kernel
theorem dX4_init_55 : decode cX4_init 55 = .ok (.newarray .int, 2) := by decide +kernel
theorem dX4_init_57 : decode cX4_init 57 = .ok (.putfield 33, 3) := by decide +kernel
theorem dX4_init_60 : decode cX4_init 60 = .ok (.return_, 1) := by decide +kernel
theorem dX4_clear_0 : decode cX4_clear 0 = .ok (.aload_n 0, 1) := by decide +kernel
theorem dX4_clear_1 : decode cX4_clear 1 = .ok (.iconst 0, 1) := by decide +kernel
theorem dX4_clear_2 : decode cX4_clear 2 = .ok (.putfield 36, 3) := by decide +kernel
theorem dX4_clear_5 : decode cX4_clear 5 = .ok (.aload_n 0, 1) := by decide +kernel
theorem dX4_clear_6 : decode cX4_clear 6 = .ok (.iconst 0, 1) := by decide +kernel
theorem dX4_clear_7 : decode cX4_clear 7 = .ok (.putfield 40, 3) := by decide +kernel
theorem dX4_clear_10 : decode cX4_clear 10 = .ok (.aload_n 0, 1) := by decide +kernel
theorem dX4_clear_11 : decode cX4_clear 11 = .ok (.iconst 0, 1) := by decide +kernel
theorem dX4_clear_12 : decode cX4_clear 12 = .ok (.putfield 44, 3) := by decide +kernel
theorem dX4_clear_15 : decode cX4_clear 15 = .ok (.aload_n 0, 1) := by decide +kernel
theorem dX4_clear_16 : decode cX4_clear 16 = .ok (.iconst 0, 1) := by decide +kernel
theorem dX4_clear_17 : decode cX4_clear 17 = .ok (.putfield 47, 3) := by decide +kernel
theorem dX4_clear_20 : decode cX4_clear 20 = .ok (.aload_n 0, 1) := by decide +kernel
theorem dX4_clear_21 : decode cX4_clear 21 = .ok (.iconst 0, 1) := by decide +kernel
theorem dX4_clear_22 : decode cX4_clear 22 = .ok (.putfield 50, 3) := by decide +kernel
theorem dX4_clear_25 : decode cX4_clear 25 = .ok (.return_, 1) := by decide +kernel
theorem dX4_copyFrom_0 : decode cX4_copyFrom 0 = .ok (.aload_n 0, 1) := by decide +kernel
theorem dX4_copyFrom_1 : decode cX4_copyFrom 1 = .ok (.aload_n 1, 1) := by decide +kernel
theorem dX4_copyFrom_2 : decode cX4_copyFrom 2 = .ok (.getfield 36, 3) := by decide +kernel
theorem dX4_copyFrom_5 : decode cX4_copyFrom 5 = .ok (.putfield 36, 3) := by decide +kernel
theorem dX4_copyFrom_8 : decode cX4_copyFrom 8 = .ok (.aload_n 0, 1) := by decide +kernel
theorem dX4_copyFrom_9 : decode cX4_copyFrom 9 = .ok (.aload_n 1, 1) := by decide +kernel
theorem dX4_copyFrom_10 : decode cX4_copyFrom 10 = .ok (.getfield 40, 3) := by decide +kernel
theorem dX4_copyFrom_13 : decode cX4_copyFrom 13 = .ok (.putfield 40, 3) := by decide +kernel
theorem dX4_copyFrom_16 : decode cX4_copyFrom 16 = .ok (.aload_n 0, 1) := by decide +kernel
theorem dX4_copyFrom_17 : decode cX4_copyFrom 17 = .ok (.aload_n 1, 1) := by decide +kernel
theorem dX4_copyFrom_18 : decode cX4_copyFrom 18 = .ok (.getfield 44, 3) := by decide +kernel
theorem dX4_copyFrom_21 : decode cX4_copyFrom 21 = .ok (.putfield 44, 3) := by decide +kernel
theorem dX4_copyFrom_24 : decode cX4_copyFrom 24 = .ok (.aload_n 0, 1) := by decide +kernel
theorem dX4_copyFrom_25 : decode cX4_copyFrom 25 = .ok (.aload_n 1, 1) := by decide +kernel
theorem dX4_copyFrom_26 : decode cX4_copyFrom 26 = .ok (.getfield 47, 3) := by decide +kernel
theorem dX4_copyFrom_29 : decode cX4_copyFrom 29 = .ok (.putfield 47, 3) := by decide +kernel
theorem dX4_copyFrom_32 : decode cX4_copyFrom 32 = .ok (.aload_n 0, 1) := by decide +kernel
theorem dX4_copyFrom_33 : decode cX4_copyFrom 33 = .ok (.aload_n 1, 1) := by decide +kernel
theorem dX4_copyFrom_34 : decode cX4_copyFrom 34 = .ok (.getfield 50, 3) := by decide +kernel
theorem dX4_copyFrom_37 : decode cX4_copyFrom 37 = .ok (.putfield 50, 3) := by decide +kernel
theorem dX4_copyFrom_40 : decode cX4_copyFrom 40 = .ok (.aload_n 1, 1) := by decide +kernel
theorem dX4_copyFrom_41 : decode cX4_copyFrom 41 = .ok (.getfield 9, 3) := by decide +kernel
theorem dX4_copyFrom_44 : decode cX4_copyFrom 44 = .ok (.iconst 0, 1) := by decide +kernel
theorem dX4_copyFrom_45 : decode cX4_copyFrom 45 = .ok (.aload_n 0, 1) := by decide +kernel
theorem dX4_copyFrom_46 : decode cX4_copyFrom 46 = .ok (.getfield 9, 3) := by decide +kernel
theorem dX4_copyFrom_49 : decode cX4_copyFrom 49 = .ok (.iconst 0, 1) := by decide +kernel
theorem dX4_copyFrom_50 : decode cX4_copyFrom 50 = .ok (.iconst 4, 1) := by decide +kernel
theorem dX4_copyFrom_51 : decode cX4_copyFrom 51 = .ok (.invokestatic 53, 3) := by decide +kernel
theorem dX4_copyFrom_54 : decode cX4_copyFrom 54 = .ok (.aload_n 1, 1) := by decide +kernel
theorem dX4_copyFrom_55 : decode cX4_copyFrom 55 = .ok (.getfield 15, 3) := by decide +kernel
theorem dX4_copyFrom_58 : decode cX4_copyFrom 58 = .ok (.iconst 0, 1) := by decide +kernel
theorem dX4_copyFrom_59 : decode cX4_copyFrom 59 = .ok (.aload_n 0, 1) := by decide +kernel
theorem dX4_copyFrom_60 : decode cX4_copyFrom 60 = .ok (.getfield 15, 3) := by decide +kernel
theorem dX4_copyFrom_63 : decode cX4_copyFrom 63 = .ok (.iconst 0, 1) := by decide +kernel
theorem dX4_copyFrom_64 : decode cX4_copyFrom 64 = .ok (.iconst 4, 1) := by decide +kernel
theorem dX4_copyFrom_65 : decode cX4_copyFrom 65 = .ok (.invokestatic 53, 3) := by decide +kernel
theorem dX4_copyFrom_68 : decode cX4_copyFrom 68 = .ok (.aload_n 1, 1) := by decide +kernel
theorem dX4_copyFrom_69 : decode cX4_copyFrom 69 = .ok (.getfield 18, 3) := by decide +kernel
theorem dX4_copyFrom_72 : decode cX4_copyFrom 72 = .ok (.iconst 0, 1) := by decide +kernel
theorem dX4_copyFrom_73 : decode cX4_copyFrom 73 = .ok (.aload_n 0, 1) := by decide +kernel
theorem dX4_copyFrom_74 : decode cX4_copyFrom 74 = .ok (.getfield 18, 3) := by decide +kernel
theorem dX4_copyFrom_77 : decode cX4_copyFrom 77 = .ok (.iconst 0, 1) := by decide +kernel
theorem dX4_copyFrom_78 : decode cX4_copyFrom 78 = .ok (.iconst 4, 1) := by decide +kernel
theorem dX4_copyFrom_79 : decode cX4_copyFrom 79 = .ok (.invokestatic 53, 3) := by decide +kernel
theorem dX4_copyFrom_82 : decode cX4_copyFrom 82 = .ok (.aload_n 1, 1) := by decide +kernel
theorem dX4_copyFrom_83 : decode cX4_copyFrom 83 = .ok (.getfield 21, 3) := by decide +kernel
theorem dX4_copyFrom_86 : decode cX4_copyFrom 86 = .ok (.iconst 0, 1) := by decide +kernel
theorem dX4_copyFrom_87 : decode cX4_copyFrom 87 = .ok (.aload_n 0, 1) := by decide +kernel
theorem dX4_copyFrom_88 : decode cX4_copyFrom 88 = .ok (.getfield 21, 3) := by decide +kernel
theorem dX4_copyFrom_91 : decode cX4_copyFrom 91 = .ok (.iconst 0, 1) := by decide +kernel
theorem dX4_copyFrom_92 : decode cX4_copyFrom 92 = .ok (.iconst 5, 1) := by decide +kernel
theorem dX4_copyFrom_93 : decode cX4_copyFrom 93 = .ok (.invokestatic 53, 3) := by decide +kernel
theorem dX4_copyFrom_96 : decode cX4_copyFrom 96 = .ok (.aload_n 1, 1) := by decide +kernel
theorem dX4_copyFrom_97 : decode cX4_copyFrom 97 = .ok (.getfield 24, 3) := by decide +kernel
theorem dX4_copyFrom_100 : decode cX4_copyFrom 100 = .ok (.iconst 0, 1) := by decide +kernel
theorem dX4_copyFrom_101 : decode cX4_copyFrom 101 = .ok (.aload_n 0, 1) := by decide +kernel
theorem dX4_copyFrom_102 : decode cX4_copyFrom 102 = .ok (.getfield 24, 3) := by decide +kernel
theorem dX4_copyFrom_105 : decode cX4_copyFrom 105 = .ok (.iconst 0, 1) := by decide +kernel
theorem dX4_copyFrom_106 : decode cX4_copyFrom 106 = .ok (.iconst 5, 1) := by decide +kernel
theorem dX4_copyFrom_107 : decode cX4_copyFrom 107 = .ok (.invokestatic 53, 3) := by decide +kernel
theorem dX4_copyFrom_110 : decode cX4_copyFrom 110 = .ok (.aload_n 1, 1) := by decide +kernel
theorem dX4_copyFrom_111 : decode cX4_copyFrom 111 = .ok (.getfield 27, 3) := by decide +kernel
theorem dX4_copyFrom_114 : decode cX4_copyFrom 114 = .ok (.iconst 0, 1) := by decide +kernel
theorem dX4_copyFrom_115 : decode cX4_copyFrom 115 = .ok (.aload_n 0, 1) := by decide +kernel
theorem dX4_copyFrom_116 : decode cX4_copyFrom 116 = .ok (.getfield 27, 3) := by decide +kernel
theorem dX4_copyFrom_119 : decode cX4_copyFrom 119 = .ok (.iconst 0, 1) := by decide +kernel
theorem dX4_copyFrom_120 : decode cX4_copyFrom 120 = .ok (.iconst 5, 1) := by decide +kernel
theorem dX4_copyFrom_121 : decode cX4_copyFrom 121 = .ok (.invokestatic 53, 3) := by decide +kernel
theorem dX4_copyFrom_124 : decode cX4_copyFrom 124 = .ok (.aload_n 1, 1) := by decide +kernel
theorem dX4_copyFrom_125 : decode cX4_copyFrom 125 = .ok (.getfield 30, 3) := by decide +kernel
theorem dX4_copyFrom_128 : decode cX4_copyFrom 128 = .ok (.iconst 0, 1) := by decide +kernel
theorem dX4_copyFrom_129 : decode cX4_copyFrom 129 = .ok (.aload_n 0, 1) := by decide +kernel
theorem dX4_copyFrom_130 : decode cX4_copyFrom 130 = .ok (.getfield 30, 3) := by decide +kernel
theorem dX4_copyFrom_133 : decode cX4_copyFrom 133 = .ok (.iconst 0, 1) := by decide +kernel
theorem dX4_copyFrom_134 : decode cX4_copyFrom 134 = .ok (.iconst 5, 1) := by decide +kernel
theorem dX4_copyFrom_135 : decode cX4_copyFrom 135 = .ok (.invokestatic 53, 3) := by decide +kernel
theorem dX4_copyFrom_138 : decode cX4_copyFrom 138 = .ok (.aload_n 1, 1) := by decide +kernel
theorem dX4_copyFrom_139 : decode cX4_copyFrom 139 = .ok (.getfield 33, 3) := by decide +kernel
theorem dX4_copyFrom_142 : decode cX4_copyFrom 142 = .ok (.iconst 0, 1) := by decide +kernel
theorem dX4_copyFrom_143 : decode cX4_copyFrom 143 = .ok (.aload_n 0, 1) := by decide +kernel
theorem dX4_copyFrom_144 : decode cX4_copyFrom 144 = .ok (.getfield 33, 3) := by decide +kernel
theorem dX4_copyFrom_147 : decode cX4_copyFrom 147 = .ok (.iconst 0, 1) := by decide +kernel
theorem dX4_copyFrom_148 : decode cX4_copyFrom 148 = .ok (.iconst 5, 1) := by decide +kernel
theorem dX4_copyFrom_149 : decode cX4_copyFrom 149 = .ok (.invokestatic 53, 3) := by decide +kernel
theorem dX4_copyFrom_152 : decode cX4_copyFrom 152 = .ok (.return_, 1) := by decide +kernel
theorem dX4_isGate_0 : decode cX4_isGate 0 = .ok (.iload_n 1, 1) := by decide +kernel
theorem dX4_isGate_1 : decode cX4_isGate 1 = .ok (.ifCond .lt 15, 3) := by decide +kernel
theorem dX4_isGate_4 : decode cX4_isGate 4 = .ok (.iload_n 1, 1) := by decide +kernel
theorem dX4_isGate_5 : decode cX4_isGate 5 = .ok (.aload_n 0, 1) := by decide +kernel
theorem dX4_isGate_6 : decode cX4_isGate 6 = .ok (.getfield 47, 3) := by decide +kernel
theorem dX4_isGate_9 : decode cX4_isGate 9 = .ok (.if_icmp .ge 7, 3) := by decide +kernel
theorem dX4_isGate_12 : decode cX4_isGate 12 = .ok (.iconst 1, 1) := by decide +kernel
theorem dX4_isGate_13 : decode cX4_isGate 13 = .ok (.goto 4, 3) := by decide +kernel
theorem dX4_isGate_16 : decode cX4_isGate 16 = .ok (.iconst 0, 1) := by decide +kernel
theorem dX4_isGate_17 : decode cX4_isGate 17 = .ok (.ireturn, 1) := by decide +kernel
theorem dX4_isFob_0 : decode cX4_isFob 0 = .ok (.iload_n 1, 1) := by decide +kernel
theorem dX4_isFob_1 : decode cX4_isFob 1 = .ok (.ifCond .lt 15, 3) := by decide +kernel
theorem dX4_isFob_4 : decode cX4_isFob 4 = .ok (.iload_n 1, 1) := by decide +kernel
theorem dX4_isFob_5 : decode cX4_isFob 5 = .ok (.aload_n 0, 1) := by decide +kernel
theorem dX4_isFob_6 : decode cX4_isFob 6 = .ok (.getfield 50, 3) := by decide +kernel
theorem dX4_isFob_9 : decode cX4_isFob 9 = .ok (.if_icmp .ge 7, 3) := by decide +kernel
theorem dX4_isFob_12 : decode cX4_isFob 12 = .ok (.iconst 1, 1) := by decide +kernel
theorem dX4_isFob_13 : decode cX4_isFob 13 = .ok (.goto 4, 3) := by decide +kernel
theorem dX4_isFob_16 : decode cX4_isFob 16 = .ok (.iconst 0, 1) := by decide +kernel
theorem dX4_isFob_17 : decode cX4_isFob 17 = .ok (.ireturn, 1) := by decide +kernel
theorem dX4_sendings_0 : decode cX4_sendings 0 = .ok (.aload_n 0, 1) := by decide +kernel
theorem dX4_sendings_1 : decode cX4_sendings 1 = .ok (.getfield 21, 3) := by decide +kernel
theorem dX4_sendings_4 : decode cX4_sendings 4 = .ok (.iload_n 1, 1) := by decide +kernel
theorem dX4_sendings_5 : decode cX4_sendings 5 = .ok (.iaload, 1) := by decide +kernel
theorem dX4_sendings_6 : decode cX4_sendings 6 = .ok (.iconst 1, 1) := by decide +kernel
theorem dX4_sendings_7 : decode cX4_sendings 7 = .ok (.if_icmp .ne 7, 3) := by decide +kernel
theorem dX4_sendings_10 : decode cX4_sendings 10 = .ok (.iconst 2, 1) := by decide +kernel
theorem dX4_sendings_11 : decode cX4_sendings 11 = .ok (.goto 4, 3) := by decide +kernel
theorem dX4_sendings_14 : decode cX4_sendings 14 = .ok (.iconst 1, 1) := by decide +kernel
theorem dX4_sendings_15 : decode cX4_sendings 15 = .ok (.ireturn, 1) := by decide +kernel
theorem dX4_stride_0 : decode cX4_stride 0 = .ok (.aload_n 0, 1) := by decide +kernel
theorem dX4_stride_1 : decode cX4_stride 1 = .ok (.getfield 21, 3) := by decide +kernel
theorem dX4_stride_4 : decode cX4_stride 4 = .ok (.iload_n 1, 1) := by decide +kernel
theorem dX4_stride_5 : decode cX4_stride 5 = .ok (.iaload, 1) := by decide +kernel
theorem dX4_stride_6 : decode cX4_stride 6 = .ok (.iconst 3, 1) := by decide +kernel
theorem dX4_stride_7 : decode cX4_stride 7 = .ok (.if_icmp .ne 7, 3) := by decide +kernel
theorem dX4_stride_10 : decode cX4_stride 10 = .ok (.iconst 0, 1) := by decide +kernel
theorem dX4_stride_11 : decode cX4_stride 11 = .ok (.goto 4, 3) := by decide +kernel
theorem dX4_stride_14 : decode cX4_stride 14 = .ok (.iconst 1, 1) := by decide +kernel
theorem dX4_stride_15 : decode cX4_stride 15 = .ok (.ireturn, 1) := by decide +kernel
theorem dX4_leastAhead_0 : decode cX4_leastAhead 0 = .ok (.aload_n 0, 1) := by decide +kernel
theorem dX4_leastAhead_1 : decode cX4_leastAhead 1 = .ok (.getfield 9, 3) := by decide +kernel
theorem dX4_leastAhead_4 : decode cX4_leastAhead 4 = .ok (.iload_n 1, 1) := by decide +kernel
theorem dX4_leastAhead_5 : decode cX4_leastAhead 5 = .ok (.iaload, 1) := by decide +kernel
theorem dX4_leastAhead_6 : decode cX4_leastAhead 6 = .ok (.iconst 2, 1) := by decide +kernel
theorem dX4_leastAhead_7 : decode cX4_leastAhead 7 = .ok (.if_icmp .ne 7, 3) := by decide +kernel
theorem dX4_leastAhead_10 : decode cX4_leastAhead 10 = .ok (.iconst 0, 1) := by decide +kernel
theorem dX4_leastAhead_11 : decode cX4_leastAhead 11 = .ok (.goto 4, 3) := by decide +kernel
theorem dX4_leastAhead_14 : decode cX4_leastAhead 14 = .ok (.iconst 1, 1) := by decide +kernel
theorem dX4_leastAhead_15 : decode cX4_leastAhead 15 = .ok (.ireturn, 1) := by decide +kernel
theorem dX4_mostAhead_0 : decode cX4_mostAhead 0 = .ok (.aload_n 0, 1) := by decide +kernel
theorem dX4_mostAhead_1 : decode cX4_mostAhead 1 = .ok (.getfield 9, 3) := by decide +kernel
theorem dX4_mostAhead_4 : decode cX4_mostAhead 4 = .ok (.iload_n 1, 1) := by decide +kernel
theorem dX4_mostAhead_5 : decode cX4_mostAhead 5 = .ok (.iaload, 1) := by decide +kernel
theorem dX4_mostAhead_6 : decode cX4_mostAhead 6 = .ok (.iconst 1, 1) := by decide +kernel
theorem dX4_mostAhead_7 : decode cX4_mostAhead 7 = .ok (.if_icmp .ne 7, 3) := by decide +kernel
theorem dX4_mostAhead_10 : decode cX4_mostAhead 10 = .ok (.iconst 1, 1) := by decide +kernel
theorem dX4_mostAhead_11 : decode cX4_mostAhead 11 = .ok (.goto 9, 3) := by decide +kernel
theorem dX4_mostAhead_14 : decode cX4_mostAhead 14 = .ok (.aload_n 0, 1) := by decide +kernel
theorem dX4_mostAhead_15 : decode cX4_mostAhead 15 = .ok (.getfield 18, 3) := by decide +kernel
theorem dX4_mostAhead_18 : decode cX4_mostAhead 18 = .ok (.iload_n 1, 1) := by decide +kernel
theorem dX4_mostAhead_19 : decode cX4_mostAhead 19 = .ok (.iaload, 1) := by decide +kernel
theorem dX4_mostAhead_20 : decode cX4_mostAhead 20 = .ok (.ireturn, 1) := by decide +kernel
theorem dX4_addEar_0 : decode cX4_addEar 0 = .ok (.aload_n 0, 1) := by decide +kernel
theorem dX4_addEar_1 : decode cX4_addEar 1 = .ok (.iconst 1, 1) := by decide +kernel
theorem dX4_addEar_2 : decode cX4_addEar 2 = .ok (.putfield 36, 3) := by decide +kernel
theorem dX4_addEar_5 : decode cX4_addEar 5 = .ok (.aload_n 0, 1) := by decide +kernel
theorem dX4_addEar_6 : decode cX4_addEar 6 = .ok (.aload_n 1, 1) := by decide +kernel
theorem dX4_addEar_7 : decode cX4_addEar 7 = .ok (.iconst 0, 1) := by decide +kernel
theorem dX4_addEar_8 : decode cX4_addEar 8 = .ok (.iaload, 1) := by decide +kernel
theorem dX4_addEar_9 : decode cX4_addEar 9 = .ok (.putfield 40, 3) := by decide +kernel
theorem dX4_addEar_12 : decode cX4_addEar 12 = .ok (.aload_n 0, 1) := by decide +kernel
theorem dX4_addEar_13 : decode cX4_addEar 13 = .ok (.aload_n 1, 1) := by decide +kernel
theorem dX4_addEar_14 : decode cX4_addEar 14 = .ok (.iconst 1, 1) := by decide +kernel
theorem dX4_addEar_15 : decode cX4_addEar 15 = .ok (.iaload, 1) := by decide +kernel
theorem dX4_addEar_16 : decode cX4_addEar 16 = .ok (.putfield 44, 3) := by decide +kernel
theorem dX4_addEar_19 : decode cX4_addEar 19 = .ok (.return_, 1) := by decide +kernel
theorem dX4_addGate_0 : decode cX4_addGate 0 = .ok (.aload_n 0, 1) := by decide +kernel
theorem dX4_addGate_1 : decode cX4_addGate 1 = .ok (.getfield 47, 3) := by decide +kernel
theorem dX4_addGate_4 : decode cX4_addGate 4 = .ok (.iconst 4, 1) := by decide +kernel
theorem dX4_addGate_5 : decode cX4_addGate 5 = .ok (.if_icmp .lt 4, 3) := by decide +kernel
theorem dX4_addGate_8 : decode cX4_addGate 8 = .ok (.return_, 1) := by decide +kernel
theorem dX4_addGate_9 : decode cX4_addGate 9 = .ok (.aload_n 0, 1) := by decide +kernel
theorem dX4_addGate_10 : decode cX4_addGate 10 = .ok (.getfield 9, 3) := by decide +kernel
theorem dX4_addGate_13 : decode cX4_addGate 13 = .ok (.aload_n 0, 1) := by decide +kernel
theorem dX4_addGate_14 : decode cX4_addGate 14 = .ok (.getfield 47, 3) := by decide +kernel
theorem dX4_addGate_17 : decode cX4_addGate 17 = .ok (.aload_n 1, 1) := by decide +kernel
theorem dX4_addGate_18 : decode cX4_addGate 18 = .ok (.iconst 0, 1) := by decide +kernel
theorem dX4_addGate_19 : decode cX4_addGate 19 = .ok (.iaload, 1) := by decide +kernel
theorem dX4_addGate_20 : decode cX4_addGate 20 = .ok (.iastore, 1) := by decide +kernel
theorem dX4_addGate_21 : decode cX4_addGate 21 = .ok (.aload_n 0, 1) := by decide +kernel
theorem dX4_addGate_22 : decode cX4_addGate 22 = .ok (.getfield 15, 3) := by decide +kernel
theorem dX4_addGate_25 : decode cX4_addGate 25 = .ok (.aload_n 0, 1) := by decide +kernel
theorem dX4_addGate_26 : decode cX4_addGate 26 = .ok (.getfield 47, 3) := by decide +kernel
theorem dX4_addGate_29 : decode cX4_addGate 29 = .ok (.aload_n 1, 1) := by decide +kernel
theorem dX4_addGate_30 : decode cX4_addGate 30 = .ok (.iconst 1, 1) := by decide +kernel
theorem dX4_addGate_31 : decode cX4_addGate 31 = .ok (.iaload, 1) := by decide +kernel
theorem dX4_addGate_32 : decode cX4_addGate 32 = .ok (.iastore, 1) := by decide +kernel
theorem dX4_addGate_33 : decode cX4_addGate 33 = .ok (.aload_n 0, 1) := by decide +kernel
theorem dX4_addGate_34 : decode cX4_addGate 34 = .ok (.getfield 18, 3) := by decide +kernel
theorem dX4_addGate_37 : decode cX4_addGate 37 = .ok (.aload_n 0, 1) := by decide +kernel
theorem dX4_addGate_38 : decode cX4_addGate 38 = .ok (.getfield 47, 3) := by decide +kernel
theorem dX4_addGate_41 : decode cX4_addGate 41 = .ok (.aload_n 1, 1) := by decide +kernel
theorem dX4_addGate_42 : decode cX4_addGate 42 = .ok (.iconst 2, 1) := by decide +kernel
theorem dX4_addGate_43 : decode cX4_addGate 43 = .ok (.iaload, 1) := by decide +kernel
theorem dX4_addGate_44 : decode cX4_addGate 44 = .ok (.iastore, 1) := by decide +kernel
theorem dX4_addGate_45 : decode cX4_addGate 45 = .ok (.aload_n 0, 1) := by decide +kernel
theorem dX4_addGate_46 : decode cX4_addGate 46 = .ok (.dup, 1) := by decide +kernel
theorem dX4_addGate_47 : decode cX4_addGate 47 = .ok (.getfield 47, 3) := by decide +kernel
theorem dX4_addGate_50 : decode cX4_addGate 50 = .ok (.iconst 1, 1) := by decide +kernel
theorem dX4_addGate_51 : decode cX4_addGate 51 = .ok (.iadd, 1) := by decide +kernel
theorem dX4_addGate_52 : decode cX4_addGate 52 = .ok (.putfield 47, 3) := by decide +kernel
theorem dX4_addGate_55 : decode cX4_addGate 55 = .ok (.return_, 1) := by decide +kernel
theorem dX4_addFob_0 : decode cX4_addFob 0 = .ok (.aload_n 0, 1) := by decide +kernel
theorem dX4_addFob_1 : decode cX4_addFob 1 = .ok (.getfield 50, 3) := by decide +kernel
theorem dX4_addFob_4 : decode cX4_addFob 4 = .ok (.iconst 5, 1) := by decide +kernel
theorem dX4_addFob_5 : decode cX4_addFob 5 = .ok (.if_icmp .lt 4, 3) := by decide +kernel
theorem dX4_addFob_8 : decode cX4_addFob 8 = .ok (.return_, 1) := by decide +kernel
theorem dX4_addFob_9 : decode cX4_addFob 9 = .ok (.aload_n 0, 1) := by decide +kernel
theorem dX4_addFob_10 : decode cX4_addFob 10 = .ok (.getfield 21, 3) := by decide +kernel
theorem dX4_addFob_13 : decode cX4_addFob 13 = .ok (.aload_n 0, 1) := by decide +kernel
theorem dX4_addFob_14 : decode cX4_addFob 14 = .ok (.getfield 50, 3) := by decide +kernel
theorem dX4_addFob_17 : decode cX4_addFob 17 = .ok (.aload_n 1, 1) := by decide +kernel
theorem dX4_addFob_18 : decode cX4_addFob 18 = .ok (.iconst 0, 1) := by decide +kernel
theorem dX4_addFob_19 : decode cX4_addFob 19 = .ok (.iaload, 1) := by decide +kernel
theorem dX4_addFob_20 : decode cX4_addFob 20 = .ok (.iastore, 1) := by decide +kernel
theorem dX4_addFob_21 : decode cX4_addFob 21 = .ok (.aload_n 0, 1) := by decide +kernel
theorem dX4_addFob_22 : decode cX4_addFob 22 = .ok (.getfield 24, 3) := by decide +kernel
theorem dX4_addFob_25 : decode cX4_addFob 25 = .ok (.aload_n 0, 1) := by decide +kernel
theorem dX4_addFob_26 : decode cX4_addFob 26 = .ok (.getfield 50, 3) := by decide +kernel
theorem dX4_addFob_29 : decode cX4_addFob 29 = .ok (.aload_n 1, 1) := by decide +kernel
theorem dX4_addFob_30 : decode cX4_addFob 30 = .ok (.iconst 1, 1) := by decide +kernel
theorem dX4_addFob_31 : decode cX4_addFob 31 = .ok (.iaload, 1) := by decide +kernel
theorem dX4_addFob_32 : decode cX4_addFob 32 = .ok (.iastore, 1) := by decide +kernel
theorem dX4_addFob_33 : decode cX4_addFob 33 = .ok (.aload_n 0, 1) := by decide +kernel
theorem dX4_addFob_34 : decode cX4_addFob 34 = .ok (.getfield 27, 3) := by decide +kernel
theorem dX4_addFob_37 : decode cX4_addFob 37 = .ok (.aload_n 0, 1) := by decide +kernel
theorem dX4_addFob_38 : decode cX4_addFob 38 = .ok (.getfield 50, 3) := by decide +kernel
theorem dX4_addFob_41 : decode cX4_addFob 41 = .ok (.aload_n 1, 1) := by decide +kernel
theorem dX4_addFob_42 : decode cX4_addFob 42 = .ok (.iconst 2, 1) := by decide +kernel
theorem dX4_addFob_43 : decode cX4_addFob 43 = .ok (.iaload, 1) := by decide +kernel
theorem dX4_addFob_44 : decode cX4_addFob 44 = .ok (.iastore, 1) := by decide +kernel
theorem dX4_addFob_45 : decode cX4_addFob 45 = .ok (.aload_n 0, 1) := by decide +kernel
theorem dX4_addFob_46 : decode cX4_addFob 46 = .ok (.getfield 30, 3) := by decide +kernel
theorem dX4_addFob_49 : decode cX4_addFob 49 = .ok (.aload_n 0, 1) := by decide +kernel
theorem dX4_addFob_50 : decode cX4_addFob 50 = .ok (.getfield 50, 3) := by decide +kernel
theorem dX4_addFob_53 : decode cX4_addFob 53 = .ok (.aload_n 1, 1) := by decide +kernel
theorem dX4_addFob_54 : decode cX4_addFob 54 = .ok (.iconst 3, 1) := by decide +kernel
theorem dX4_addFob_55 : decode cX4_addFob 55 = .ok (.iaload, 1) := by decide +kernel
theorem dX4_addFob_56 : decode cX4_addFob 56 = .ok (.iastore, 1) := by decide +kernel
theorem dX4_addFob_57 : decode cX4_addFob 57 = .ok (.aload_n 0, 1) := by decide +kernel
theorem dX4_addFob_58 : decode cX4_addFob 58 = .ok (.getfield 33, 3) := by decide +kernel
theorem dX4_addFob_61 : decode cX4_addFob 61 = .ok (.aload_n 0, 1) := by decide +kernel
theorem dX4_addFob_62 : decode cX4_addFob 62 = .ok (.getfield 50, 3) := by decide +kernel
theorem dX4_addFob_65 : decode cX4_addFob 65 = .ok (.aload_n 1, 1) := by decide +kernel
theorem dX4_addFob_66 : decode cX4_addFob 66 = .ok (.iconst 4, 1) := by decide +kernel
theorem dX4_addFob_67 : decode cX4_addFob 67 = .ok (.iaload, 1) := by decide +kernel
theorem dX4_addFob_68 : decode cX4_addFob 68 = .ok (.iastore, 1) := by decide +kernel
theorem dX4_addFob_69 : decode cX4_addFob 69 = .ok (.aload_n 0, 1) := by decide +kernel
theorem dX4_addFob_70 : decode cX4_addFob 70 = .ok (.dup, 1) := by decide +kernel
theorem dX4_addFob_71 : decode cX4_addFob 71 = .ok (.getfield 50, 3) := by decide +kernel
theorem dX4_addFob_74 : decode cX4_addFob 74 = .ok (.iconst 1, 1) := by decide +kernel
theorem dX4_addFob_75 : decode cX4_addFob 75 = .ok (.iadd, 1) := by decide +kernel
theorem dX4_addFob_76 : decode cX4_addFob 76 = .ok (.putfield 50, 3) := by decide +kernel
theorem dX4_addFob_79 : decode cX4_addFob 79 = .ok (.return_, 1) := by decide +kernel
theorem dX5_init_0 : decode cX5_init 0 = .ok (.aload_n 0, 1) := by decide +kernel
theorem dX5_init_1 : decode cX5_init 1 = .ok (.invokespecial 3, 3) := by decide +kernel
theorem dX5_init_4 : decode cX5_init 4 = .ok (.aload_n 0, 1) := by decide +kernel
theorem dX5_init_5 : decode cX5_init 5 = .ok (.new 9, 3) := by decide +kernel
theorem dX5_init_8 : decode cX5_init 8 = .ok (.dup, 1) := by decide +kernel
theorem dX5_init_9 : decode cX5_init 9 = .ok (.invokespecial 11, 3) := by decide +kernel
theorem dX5_init_12 : decode cX5_init 12 = .ok (.putfield 12, 3) := by decide +kernel
theorem dX5_init_15 : decode cX5_init 15 = .ok (.aload_n 0, 1) := by decide +kernel
theorem dX5_init_16 : decode cX5_init 16 = .ok (.iconst 5, 1) := by decide +kernel
theorem dX5_init_17 : decode cX5_init 17 = .ok (.newarray .int, 2) := by decide +kernel
theorem dX5_init_19 : decode cX5_init 19 = .ok (.putfield 18, 3) := by decide +kernel
theorem dX5_init_22 : decode cX5_init 22 = .ok (.return_, 1) := by decide +kernel
theorem dX5_read_0 : decode cX5_read 0 = .ok (.aload_n 0, 1) := by decide +kernel
theorem dX5_read_1 : decode cX5_read 1 = .ok (.getfield 12, 3) := by decide +kernel
theorem dX5_read_4 : decode cX5_read 4 = .ok (.invokevirtual 22, 3) := by decide +kernel
theorem dX5_read_7 : decode cX5_read 7 = .ok (.aload_n 0, 1) := by decide +kernel
theorem dX5_read_8 : decode cX5_read 8 = .ok (.iconst 0, 1) := by decide +kernel
theorem dX5_read_9 : decode cX5_read 9 = .ok (.putfield 25, 3) := by decide +kernel
theorem dX5_read_12 : decode cX5_read 12 = .ok (.aload_n 0, 1) := by decide +kernel
theorem dX5_read_13 : decode cX5_read 13 = .ok (.iconst 0, 1) := by decide +kernel
theorem dX5_read_14 : decode cX5_read 14 = .ok (.putfield 29, 3) := by decide +kernel
theorem dX5_read_17 : decode cX5_read 17 = .ok (.aload_n 0, 1) := by decide +kernel
theorem dX5_read_18 : decode cX5_read 18 = .ok (.iconst (-1), 1) := by decide +kernel
theorem dX5_read_19 : decode cX5_read 19 = .ok (.putfield 32, 3) := by decide +kernel
theorem dX5_read_22 : decode cX5_read 22 = .ok (.aload_n 0, 1) := by decide +kernel
theorem dX5_read_23 : decode cX5_read 23 = .ok (.aload_n 1, 1) := by decide +kernel
theorem dX5_read_24 : decode cX5_read 24 = .ok (.invokevirtual 35, 3) := by decide +kernel
theorem dX5_read_27 : decode cX5_read 27 = .ok (.iconst 0, 1) := by decide +kernel
theorem dX5_read_28 : decode cX5_read 28 = .ok (.istore_n 2, 1) := by decide +kernel
theorem dX5_read_29 : decode cX5_read 29 = .ok (.iload_n 2, 1) := by decide +kernel
theorem dX5_read_30 : decode cX5_read 30 = .ok (.sipush 240, 3) := by decide +kernel
theorem dX5_read_33 : decode cX5_read 33 = .ok (.if_icmp .ge 37, 3) := by decide +kernel
theorem dX5_read_36 : decode cX5_read 36 = .ok (.aload_n 0, 1) := by decide +kernel
theorem dX5_read_37 : decode cX5_read 37 = .ok (.getfield 25, 3) := by decide +kernel
theorem dX5_read_40 : decode cX5_read 40 = .ok (.aload_n 1, 1) := by decide +kernel
theorem dX5_read_41 : decode cX5_read 41 = .ok (.getfield 39, 3) := by decide +kernel
theorem dX5_read_44 : decode cX5_read 44 = .ok (.if_icmp .ge 26, 3) := by decide +kernel
theorem dX5_read_47 : decode cX5_read 47 = .ok (.aload_n 0, 1) := by decide +kernel
theorem dX5_read_48 : decode cX5_read 48 = .ok (.getfield 29, 3) := by decide +kernel
theorem dX5_read_51 : decode cX5_read 51 = .ok (.ifCond .ne 19, 3) := by decide +kernel
theorem dX5_read_54 : decode cX5_read 54 = .ok (.aload_n 0, 1) := by decide +kernel
theorem dX5_read_55 : decode cX5_read 55 = .ok (.aload_n 1, 1) := by decide +kernel
theorem dX5_read_56 : decode cX5_read 56 = .ok (.invokevirtual 44, 3) := by decide +kernel
theorem dX5_read_59 : decode cX5_read 59 = .ok (.aload_n 0, 1) := by decide +kernel
theorem dX5_read_60 : decode cX5_read 60 = .ok (.aload_n 1, 1) := by decide +kernel
theorem dX5_read_61 : decode cX5_read 61 = .ok (.invokevirtual 35, 3) := by decide +kernel
theorem dX5_read_64 : decode cX5_read 64 = .ok (.iinc 2 1, 3) := by decide +kernel
theorem dX5_read_67 : decode cX5_read 67 = .ok (.goto (-38), 3) := by decide +kernel
theorem dX5_read_70 : decode cX5_read 70 = .ok (.return_, 1) := by decide +kernel
theorem dX5_readClause_0 : decode cX5_readClause 0 = .ok (.aload_n 1, 1) := by decide +kernel
theorem dX5_readClause_1 : decode cX5_readClause 1 = .ok (.aload_n 0, 1) := by decide +kernel
theorem dX5_readClause_2 : decode cX5_readClause 2 = .ok (.getfield 25, 3) := by decide +kernel
theorem dX5_readClause_5 : decode cX5_readClause 5 = .ok (.invokevirtual 47, 3) := by decide +kernel
theorem dX5_readClause_8 : decode cX5_readClause 8 = .ok (.istore_n 2, 1) := by decide +kernel
theorem dX5_readClause_9 : decode cX5_readClause 9 = .ok (.aload_n 0, 1) := by decide +kernel
theorem dX5_readClause_10 : decode cX5_readClause 10 = .ok (.iload_n 2, 1) := by decide +kernel
theorem dX5_readClause_11 : decode cX5_readClause 11 = .ok (.invokevirtual 51, 3) := by decide +kernel
theorem dX5_readClause_14 : decode cX5_readClause 14 = .ok (.istore_n 3, 1) := by decide +kernel
theorem dX5_readClause_15 : decode cX5_readClause 15 = .ok (.iload_n 3, 1) := by decide +kernel
theorem dX5_readClause_16 : decode cX5_readClause 16 = .ok (.ifCond .eq 13, 3) := by decide +kernel
theorem dX5_readClause_19 : decode cX5_readClause 19 = .ok (.aload_n 0, 1) := by decide +kernel
theorem dX5_readClause_20 : decode cX5_readClause 20 = .ok (.iload_n 3, 1) := by decide +kernel
theorem dX5_readClause_21 : decode cX5_readClause 21 = .ok (.aload_n 0, 1) := by decide +kernel
theorem dX5_readClause_22 : decode cX5_readClause 22 = .ok (.getfield 25, 3) := by decide +kernel
theorem dX5_readClause_25 : decode cX5_readClause 25 = .ok (.invokevirtual 54, 3) := by decide +kernel
theorem dX5_readClause_28 : decode cX5_readClause 28 = .ok (.return_, 1) := by decide +kernel
theorem dX5_readClause_29 : decode cX5_readClause 29 = .ok (.aload_n 0, 1) := by decide +kernel
theorem dX5_readClause_30 : decode cX5_readClause 30 = .ok (.dup, 1) := by decide +kernel
theorem dX5_readClause_31 : decode cX5_readClause 31 = .ok (.getfield 25, 3) := by decide +kernel
theorem dX5_readClause_34 : decode cX5_readClause 34 = .ok (.iconst 1, 1) := by decide +kernel
theorem dX5_readClause_35 : decode cX5_readClause 35 = .ok (.iadd, 1) := by decide +kernel
theorem dX5_readClause_36 : decode cX5_readClause 36 = .ok (.putfield 25, 3) := by decide +kernel
theorem dX5_readClause_39 : decode cX5_readClause 39 = .ok (.iload_n 2, 1) := by decide +kernel
theorem dX5_readClause_40 : decode cX5_readClause 40 = .ok (.bipush 101, 2) := by decide +kernel
theorem dX5_readClause_42 : decode cX5_readClause 42 = .ok (.if_icmp .ne 17, 3) := by decide +kernel
theorem dX5_readClause_45 : decode cX5_readClause 45 = .ok (.aload_n 0, 1) := by decide +kernel
theorem dX5_readClause_46 : decode cX5_readClause 46 = .ok (.aload_n 1, 1) := by decide +kernel
theorem dX5_readClause_47 : decode cX5_readClause 47 = .ok (.getstatic 58, 3) := by decide +kernel
theorem dX5_readClause_50 : decode cX5_readClause 50 = .ok (.getstatic 61, 3) := by decide +kernel
theorem dX5_readClause_53 : decode cX5_readClause 53 = .ok (.invokevirtual 64, 3) := by decide +kernel
theorem dX5_readClause_56 : decode cX5_readClause 56 = .ok (.goto 34, 3) := by decide +kernel
theorem dX5_readClause_59 : decode cX5_readClause 59 = .ok (.iload_n 2, 1) := by decide +kernel
theorem dX5_readClause_60 : decode cX5_readClause 60 = .ok (.bipush 103, 2) := by decide +kernel
theorem dX5_readClause_62 : decode cX5_readClause 62 = .ok (.if_icmp .ne 17, 3) := by decide +kernel
theorem dX5_readClause_65 : decode cX5_readClause 65 = .ok (.aload_n 0, 1) := by decide +kernel
theorem dX5_readClause_66 : decode cX5_readClause 66 = .ok (.aload_n 1, 1) := by decide +kernel
theorem dX5_readClause_67 : decode cX5_readClause 67 = .ok (.getstatic 68, 3) := by decide +kernel
theorem dX5_readClause_70 : decode cX5_readClause 70 = .ok (.getstatic 71, 3) := by decide +kernel
theorem dX5_readClause_73 : decode cX5_readClause 73 = .ok (.invokevirtual 64, 3) := by decide +kernel
theorem dX5_readClause_76 : decode cX5_readClause 76 = .ok (.goto 14, 3) := by decide +kernel
theorem dX5_readClause_79 : decode cX5_readClause 79 = .ok (.aload_n 0, 1) := by decide +kernel
theorem dX5_readClause_80 : decode cX5_readClause 80 = .ok (.aload_n 1, 1) := by decide +kernel
theorem dX5_readClause_81 : decode cX5_readClause 81 = .ok (.getstatic 74, 3) := by decide +kernel
theorem dX5_readClause_84 : decode cX5_readClause 84 = .ok (.getstatic 77, 3) := by decide +kernel
theorem dX5_readClause_87 : decode cX5_readClause 87 = .ok (.invokevirtual 64, 3) := by decide +kernel
theorem dX5_readClause_90 : decode cX5_readClause 90 = .ok (.aload_n 0, 1) := by decide +kernel
theorem dX5_readClause_91 : decode cX5_readClause 91 = .ok (.aload_n 1, 1) := by decide +kernel
theorem dX5_readClause_92 : decode cX5_readClause 92 = .ok (.invokevirtual 80, 3) := by decide +kernel
theorem dX5_readClause_95 : decode cX5_readClause 95 = .ok (.aload_n 0, 1) := by decide +kernel
theorem dX5_readClause_96 : decode cX5_readClause 96 = .ok (.getfield 29, 3) := by decide +kernel
theorem dX5_readClause_99 : decode cX5_readClause 99 = .ok (.ifCond .ne 8, 3) := by decide +kernel
theorem dX5_readClause_102 : decode cX5_readClause 102 = .ok (.aload_n 0, 1) := by decide +kernel
theorem dX5_readClause_103 : decode cX5_readClause 103 = .ok (.iload_n 2, 1) := by decide +kernel
theorem dX5_readClause_104 : decode cX5_readClause 104 = .ok (.invokevirtual 83, 3) := by decide +kernel
theorem dX5_readClause_107 : decode cX5_readClause 107 = .ok (.return_, 1) := by decide +kernel
theorem dX5_faultOfWord_0 : decode cX5_faultOfWord 0 = .ok (.iload_n 1, 1) := by decide +kernel
theorem dX5_faultOfWord_1 : decode cX5_faultOfWord 1 = .ok (.bipush 101, 2) := by decide +kernel
theorem dX5_faultOfWord_3 : decode cX5_faultOfWord 3 = .ok (.if_icmp .eq 17, 3) := by decide +kernel
theorem dX5_faultOfWord_6 : decode cX5_faultOfWord 6 = .ok (.iload_n 1, 1) := by decide +kernel
theorem dX5_faultOfWord_7 : decode cX5_faultOfWord 7 = .ok (.bipush 103, 2) := by decide +kernel
theorem dX5_faultOfWord_9 : decode cX5_faultOfWord 9 = .ok (.if_icmp .eq 11, 3) := by decide +kernel
theorem dX5_faultOfWord_12 : decode cX5_faultOfWord 12 = .ok (.iload_n 1, 1) := by decide +kernel
theorem dX5_faultOfWord_13 : decode cX5_faultOfWord 13 = .ok (.bipush 102, 2) := by decide +kernel
theorem dX5_faultOfWord_15 : decode cX5_faultOfWord 15 = .ok (.if_icmp .eq 5, 3) := by decide +kernel
theorem dX5_faultOfWord_18 : decode cX5_faultOfWord 18 = .ok (.iconst 1, 1) := by decide +kernel
theorem dX5_faultOfWord_19 : decode cX5_faultOfWord 19 = .ok (.ireturn, 1) := by decide +kernel
theorem dX5_faultOfWord_20 : decode cX5_faultOfWord 20 = .ok (.aload_n 0, 1) := by decide +kernel
theorem dX5_faultOfWord_21 : decode cX5_faultOfWord 21 = .ok (.getfield 12, 3) := by decide +kernel
theorem dX5_faultOfWord_24 : decode cX5_faultOfWord 24 = .ok (.getfield 87, 3) := by decide +kernel
theorem dX5_faultOfWord_27 : decode cX5_faultOfWord 27 = .ok (.ifCond .ne 15, 3) := by decide +kernel
theorem dX5_faultOfWord_30 : decode cX5_faultOfWord 30 = .ok (.iload_n 1, 1) := by decide +kernel
theorem dX5_faultOfWord_31 : decode cX5_faultOfWord 31 = .ok (.bipush 101, 2) := by decide +kernel
theorem dX5_faultOfWord_33 : decode cX5_faultOfWord 33 = .ok (.if_icmp .ne 7, 3) := by decide +kernel
theorem dX5_faultOfWord_36 : decode cX5_faultOfWord 36 = .ok (.iconst 0, 1) := by decide +kernel
theorem dX5_faultOfWord_37 : decode cX5_faultOfWord 37 = .ok (.goto 4, 3) := by decide +kernel
theorem dX5_faultOfWord_40 : decode cX5_faultOfWord 40 = .ok (.iconst 1, 1) := by decide +kernel
theorem dX5_faultOfWord_41 : decode cX5_faultOfWord 41 = .ok (.ireturn, 1) := by decide +kernel
theorem dX5_faultOfWord_42 : decode cX5_faultOfWord 42 = .ok (.iload_n 1, 1) := by decide +kernel
theorem dX5_faultOfWord_43 : decode cX5_faultOfWord 43 = .ok (.bipush 101, 2) := by decide +kernel
theorem dX5_faultOfWord_45 : decode cX5_faultOfWord 45 = .ok (.if_icmp .eq 37, 3) := by decide +kernel
theorem dX5_faultOfWord_48 : decode cX5_faultOfWord 48 = .ok (.iload_n 1, 1) := by decide +kernel
theorem dX5_faultOfWord_49 : decode cX5_faultOfWord 49 = .ok (.bipush 103, 2) := by decide +kernel
theorem dX5_faultOfWord_51 : decode cX5_faultOfWord 51 = .ok (.if_icmp .ne 14, 3) := by decide +kernel
theorem dX5_faultOfWord_54 : decode cX5_faultOfWord 54 = .ok (.aload_n 0, 1) := by decide +kernel
theorem dX5_faultOfWord_55 : decode cX5_faultOfWord 55 = .ok (.getfield 12, 3) := by decide +kernel
theorem dX5_faultOfWord_58 : decode cX5_faultOfWord 58 = .ok (.getfield 91, 3) := by decide +kernel
theorem dX5_faultOfWord_61 : decode cX5_faultOfWord 61 = .ok (.iconst 4, 1) := by decide +kernel
theorem dX5_faultOfWord_62 : decode cX5_faultOfWord 62 = .ok (.if_icmp .ge 20, 3) := by decide +kernel
theorem dX5_faultOfWord_65 : decode cX5_faultOfWord 65 = .ok (.iload_n 1, 1) := by decide +kernel
theorem dX5_faultOfWord_66 : decode cX5_faultOfWord 66 = .ok (.bipush 102, 2) := by decide +kernel
theorem dX5_faultOfWord_68 : decode cX5_faultOfWord 68 = .ok (.if_icmp .ne 18, 3) := by decide +kernel
theorem dX5_faultOfWord_71 : decode cX5_faultOfWord 71 = .ok (.aload_n 0, 1) := by decide +kernel
theorem dX5_faultOfWord_72 : decode cX5_faultOfWord 72 = .ok (.getfield 12, 3) := by decide +kernel
theorem dX5_faultOfWord_75 : decode cX5_faultOfWord 75 = .ok (.getfield 94, 3) := by decide +kernel
theorem dX5_faultOfWord_78 : decode cX5_faultOfWord 78 = .ok (.iconst 5, 1) := by decide +kernel
theorem dX5_faultOfWord_79 : decode cX5_faultOfWord 79 = .ok (.if_icmp .lt 7, 3) := by decide +kernel
theorem dX5_faultOfWord_82 : decode cX5_faultOfWord 82 = .ok (.iconst 1, 1) := by decide +kernel
theorem dX5_faultOfWord_83 : decode cX5_faultOfWord 83 = .ok (.goto 4, 3) := by decide +kernel
theorem dX5_faultOfWord_86 : decode cX5_faultOfWord 86 = .ok (.iconst 0, 1) := by decide +kernel
theorem dX5_faultOfWord_87 : decode cX5_faultOfWord 87 = .ok (.istore_n 2, 1) := by decide +kernel
theorem dX5_faultOfWord_88 : decode cX5_faultOfWord 88 = .ok (.iload_n 2, 1) := by decide +kernel
theorem dX5_faultOfWord_89 : decode cX5_faultOfWord 89 = .ok (.ifCond .eq 7, 3) := by decide +kernel
theorem dX5_faultOfWord_92 : decode cX5_faultOfWord 92 = .ok (.iconst 3, 1) := by decide +kernel
theorem dX5_faultOfWord_93 : decode cX5_faultOfWord 93 = .ok (.goto 4, 3) := by decide +kernel
theorem dX5_faultOfWord_96 : decode cX5_faultOfWord 96 = .ok (.iconst 0, 1) := by decide +kernel
theorem dX5_faultOfWord_97 : decode cX5_faultOfWord 97 = .ok (.ireturn, 1) := by decide +kernel
theorem dX5_readNumbers_0 : decode cX5_readNumbers 0 = .ok (.iconst 0, 1) := by decide +kernel
theorem dX5_readNumbers_1 : decode cX5_readNumbers 1 = .ok (.istore 4, 2) := by decide +kernel
theorem dX5_readNumbers_3 : decode cX5_readNumbers 3 = .ok (.iload 4, 2) := by decide +kernel
theorem dX5_readNumbers_5 : decode cX5_readNumbers 5 = .ok (.iconst 5, 1) := by decide +kernel
theorem dX5_readNumbers_6 : decode cX5_readNumbers 6 = .ok (.if_icmp .ge 50, 3) := by decide +kernel
theorem dX5_readNumbers_9 : decode cX5_readNumbers 9 = .ok (.iload 4, 2) := by decide +kernel
theorem dX5_readNumbers_11 : decode cX5_readNumbers 11 = .ok (.aload_n 2, 1) := by decide +kernel
theorem dX5_readNumbers_12 : decode cX5_readNumbers 12 = .ok (.arraylength, 1) := by decide +kernel
theorem dX5_readNumbers_13 : decode cX5_readNumbers 13 = .ok (.if_icmp .ge 43, 3) := by decide +kernel
theorem dX5_readNumbers_16 : decode cX5_readNumbers 16 = .ok (.iload 4, 2) := by decide +kernel
theorem dX5_readNumbers_18 : decode cX5_readNumbers 18 = .ok (.aload_n 3, 1) := by decide +kernel
theorem dX5_readNumbers_19 : decode cX5_readNumbers 19 = .ok (.arraylength, 1) := by decide +kernel
theorem dX5_readNumbers_20 : decode cX5_readNumbers 20 = .ok (.if_icmp .ge 36, 3) := by decide +kernel
theorem dX5_readNumbers_23 : decode cX5_readNumbers 23 = .ok (.aload_n 0, 1) := by decide +kernel
theorem dX5_readNumbers_24 : decode cX5_readNumbers 24 = .ok (.getfield 29, 3) := by decide +kernel
theorem dX5_readNumbers_27 : decode cX5_readNumbers 27 = .ok (.ifCond .ne 29, 3) := by decide +kernel
theorem dX5_readNumbers_30 : decode cX5_readNumbers 30 = .ok (.aload_n 0, 1) := by decide +kernel
theorem dX5_readNumbers_31 : decode cX5_readNumbers 31 = .ok (.getfield 18, 3) := by decide +kernel
theorem dX5_readNumbers_34 : decode cX5_readNumbers 34 = .ok (.iload 4, 2) := by decide +kernel
theorem dX5_readNumbers_36 : decode cX5_readNumbers 36 = .ok (.aload_n 0, 1) := by decide +kernel
theorem dX5_readNumbers_37 : decode cX5_readNumbers 37 = .ok (.aload_n 1, 1) := by decide +kernel
theorem dX5_readNumbers_38 : decode cX5_readNumbers 38 = .ok (.aload_n 2, 1) := by decide +kernel
theorem dX5_readNumbers_39 : decode cX5_readNumbers 39 = .ok (.iload 4, 2) := by decide +kernel
theorem dX5_readNumbers_41 : decode cX5_readNumbers 41 = .ok (.iaload, 1) := by decide +kernel
theorem dX5_readNumbers_42 : decode cX5_readNumbers 42 = .ok (.aload_n 3, 1) := by decide +kernel
theorem dX5_readNumbers_43 : decode cX5_readNumbers 43 = .ok (.iload 4, 2) := by decide +kernel
theorem dX5_readNumbers_45 : decode cX5_readNumbers 45 = .ok (.iaload, 1) := by decide +kernel
theorem dX5_readNumbers_46 : decode cX5_readNumbers 46 = .ok (.invokevirtual 97, 3) := by decide +kernel
theorem dX5_readNumbers_49 : decode cX5_readNumbers 49 = .ok (.iastore, 1) := by decide +kernel
theorem dX5_readNumbers_50 : decode cX5_readNumbers 50 = .ok (.iinc 4 1, 3) := by decide +kernel
theorem dX5_readNumbers_53 : decode cX5_readNumbers 53 = .ok (.goto (-50), 3) := by decide +kernel
theorem dX5_readNumbers_56 : decode cX5_readNumbers 56 = .ok (.return_, 1) := by decide +kernel
theorem dX5_readNumber_0 : decode cX5_readNumber 0 = .ok (.aload_n 0, 1) := by decide +kernel
theorem dX5_readNumber_1 : decode cX5_readNumber 1 = .ok (.aload_n 1, 1) := by decide +kernel
theorem dX5_readNumber_2 : decode cX5_readNumber 2 = .ok (.invokevirtual 35, 3) := by decide +kernel
theorem dX5_readNumber_5 : decode cX5_readNumber 5 = .ok (.aload_n 0, 1) := by decide +kernel
theorem dX5_readNumber_6 : decode cX5_readNumber 6 = .ok (.getfield 25, 3) := by decide +kernel
theorem dX5_readNumber_9 : decode cX5_readNumber 9 = .ok (.istore 4, 2) := by decide +kernel
theorem dX5_readNumber_11 : decode cX5_readNumber 11 = .ok (.iconst 0, 1) := by decide +kernel
theorem dX5_readNumber_12 : decode cX5_readNumber 12 = .ok (.istore 5, 2) := by decide +kernel
theorem dX5_readNumber_14 : decode cX5_readNumber 14 = .ok (.aload_n 0, 1) := by decide +kernel
theorem dX5_readNumber_15 : decode cX5_readNumber 15 = .ok (.getfield 25, 3) := by decide +kernel
theorem dX5_readNumber_18 : decode cX5_readNumber 18 = .ok (.aload_n 1, 1) := by decide +kernel
theorem dX5_readNumber_19 : decode cX5_readNumber 19 = .ok (.getfield 39, 3) := by decide +kernel
theorem dX5_readNumber_22 : decode cX5_readNumber 22 = .ok (.if_icmp .ge 49, 3) := by decide +kernel
theorem dX5_readNumber_25 : decode cX5_readNumber 25 = .ok (.aload_n 1, 1) := by decide +kernel
theorem dX5_readNumber_26 : decode cX5_readNumber 26 = .ok (.aload_n 0, 1) := by decide +kernel
theorem dX5_readNumber_27 : decode cX5_readNumber 27 = .ok (.getfield 25, 3) := by decide +kernel
theorem dX5_readNumber_30 : decode cX5_readNumber 30 = .ok (.invokevirtual 47, 3) := by decide +kernel
theorem dX5_readNumber_33 : decode cX5_readNumber 33 = .ok (.invokestatic 101, 3) := by decide +kernel
theorem dX5_readNumber_36 : decode cX5_readNumber 36 = .ok (.ifCond .eq 35, 3) := by decide +kernel
theorem dX5_readNumber_39 : decode cX5_readNumber 39 = .ok (.iload 5, 2) := by decide +kernel
theorem dX5_readNumber_41 : decode cX5_readNumber 41 = .ok (.bipush 10, 2) := by decide +kernel
theorem dX5_readNumber_43 : decode cX5_readNumber 43 = .ok (.imul, 1) := by decide +kernel
theorem dX5_readNumber_44 : decode cX5_readNumber 44 = .ok (.aload_n 1, 1) := by decide +kernel
theorem dX5_readNumber_45 : decode cX5_readNumber 45 = .ok (.aload_n 0, 1) := by decide +kernel
theorem dX5_readNumber_46 : decode cX5_readNumber 46 = .ok (.getfield 25, 3) := by decide +kernel
theorem dX5_readNumber_49 : decode cX5_readNumber 49 = .ok (.invokevirtual 47, 3) := by decide +kernel
theorem dX5_readNumber_52 : decode cX5_readNumber 52 = .ok (.iadd, 1) := by decide +kernel
theorem dX5_readNumber_53 : decode cX5_readNumber 53 = .ok (.bipush 48, 2) := by decide +kernel
theorem dX5_readNumber_55 : decode cX5_readNumber 55 = .ok (.isub, 1) := by decide +kernel
theorem dX5_readNumber_56 : decode cX5_readNumber 56 = .ok (.istore 5, 2) := by decide +kernel
theorem dX5_readNumber_58 : decode cX5_readNumber 58 = .ok (.aload_n 0, 1) := by decide +kernel
theorem dX5_readNumber_59 : decode cX5_readNumber 59 = .ok (.dup, 1) := by decide +kernel
theorem dX5_readNumber_60 : decode cX5_readNumber 60 = .ok (.getfield 25, 3) := by decide +kernel
theorem dX5_readNumber_63 : decode cX5_readNumber 63 = .ok (.iconst 1, 1) := by decide +kernel
theorem dX5_readNumber_64 : decode cX5_readNumber 64 = .ok (.iadd, 1) := by decide +kernel
theorem dX5_readNumber_65 : decode cX5_readNumber 65 = .ok (.putfield 25, 3) := by decide +kernel
theorem dX5_readNumber_68 : decode cX5_readNumber 68 = .ok (.goto (-54), 3) := by decide +kernel
theorem dX5_readNumber_71 : decode cX5_readNumber 71 = .ok (.aload_n 0, 1) := by decide +kernel
theorem dX5_readNumber_72 : decode cX5_readNumber 72 = .ok (.getfield 25, 3) := by decide +kernel
theorem dX5_readNumber_75 : decode cX5_readNumber 75 = .ok (.iload 4, 2) := by decide +kernel
theorem dX5_readNumber_77 : decode cX5_readNumber 77 = .ok (.isub, 1) := by decide +kernel
theorem dX5_readNumber_78 : decode cX5_readNumber 78 = .ok (.istore 6, 2) := by decide +kernel
theorem dX5_readNumber_80 : decode cX5_readNumber 80 = .ok (.iload 6, 2) := by decide +kernel
theorem dX5_readNumber_82 : decode cX5_readNumber 82 = .ok (.ifCond .ne 13, 3) := by decide +kernel
theorem dX5_readNumber_85 : decode cX5_readNumber 85 = .ok (.aload_n 0, 1) := by decide +kernel
theorem dX5_readNumber_86 : decode cX5_readNumber 86 = .ok (.iconst 1, 1) := by decide +kernel
theorem dX5_readNumber_87 : decode cX5_readNumber 87 = .ok (.iload 4, 2) := by decide +kernel
theorem dX5_readNumber_89 : decode cX5_readNumber 89 = .ok (.invokevirtual 54, 3) := by decide +kernel
theorem dX5_readNumber_92 : decode cX5_readNumber 92 = .ok (.goto 28, 3) := by decide +kernel
theorem dX5_readNumber_95 : decode cX5_readNumber 95 = .ok (.iload 6, 2) := by decide +kernel
theorem dX5_readNumber_97 : decode cX5_readNumber 97 = .ok (.iconst 3, 1) := by decide +kernel
theorem dX5_readNumber_98 : decode cX5_readNumber 98 = .ok (.if_icmp .gt 15, 3) := by decide +kernel
theorem dX5_readNumber_101 : decode cX5_readNumber 101 = .ok (.iload 5, 2) := by decide +kernel
theorem dX5_readNumber_103 : decode cX5_readNumber 103 = .ok (.iload_n 2, 1) := by decide +kernel
theorem dX5_readNumber_104 : decode cX5_readNumber 104 = .ok (.if_icmp .lt 9, 3) := by decide +kernel
theorem dX5_readNumber_107 : decode cX5_readNumber 107 = .ok (.iload 5, 2) := by decide +kernel
theorem dX5_readNumber_109 : decode cX5_readNumber 109 = .ok (.iload_n 3, 1) := by decide +kernel
theorem dX5_readNumber_110 : decode cX5_readNumber 110 = .ok (.if_icmp .le 10, 3) := by decide +kernel
theorem dX5_readNumber_113 : decode cX5_readNumber 113 = .ok (.aload_n 0, 1) := by decide +kernel
theorem dX5_readNumber_114 : decode cX5_readNumber 114 = .ok (.iconst 2, 1) := by decide +kernel
theorem dX5_readNumber_115 : decode cX5_readNumber 115 = .ok (.iload 4, 2) := by decide +kernel
theorem dX5_readNumber_117 : decode cX5_readNumber 117 = .ok (.invokevirtual 54, 3) := by decide +kernel
theorem dX5_readNumber_120 : decode cX5_readNumber 120 = .ok (.iload 5, 2) := by decide +kernel
theorem dX5_readNumber_122 : decode cX5_readNumber 122 = .ok (.ireturn, 1) := by decide +kernel
theorem dX5_readEnd_0 : decode cX5_readEnd 0 = .ok (.aload_n 0, 1) := by decide +kernel
theorem dX5_readEnd_1 : decode cX5_readEnd 1 = .ok (.getfield 29, 3) := by decide +kernel
theorem dX5_readEnd_4 : decode cX5_readEnd 4 = .ok (.ifCond .eq 4, 3) := by decide +kernel
theorem dX5_readEnd_7 : decode cX5_readEnd 7 = .ok (.return_, 1) := by decide +kernel
theorem dX5_readEnd_8 : decode cX5_readEnd 8 = .ok (.aload_n 0, 1) := by decide +kernel
theorem dX5_readEnd_9 : decode cX5_readEnd 9 = .ok (.aload_n 1, 1) := by decide +kernel
theorem dX5_readEnd_10 : decode cX5_readEnd 10 = .ok (.invokevirtual 35, 3) := by decide +kernel
theorem dX5_readEnd_13 : decode cX5_readEnd 13 = .ok (.aload_n 1, 1) := by decide +kernel
theorem dX5_readEnd_14 : decode cX5_readEnd 14 = .ok (.aload_n 0, 1) := by decide +kernel
theorem dX5_readEnd_15 : decode cX5_readEnd 15 = .ok (.getfield 25, 3) := by decide +kernel
theorem dX5_readEnd_18 : decode cX5_readEnd 18 = .ok (.invokevirtual 47, 3) := by decide +kernel
theorem dX5_readEnd_21 : decode cX5_readEnd 21 = .ok (.bipush 59, 2) := by decide +kernel
theorem dX5_readEnd_23 : decode cX5_readEnd 23 = .ok (.if_icmp .ne 16, 3) := by decide +kernel
theorem dX5_readEnd_26 : decode cX5_readEnd 26 = .ok (.aload_n 0, 1) := by decide +kernel
theorem dX5_readEnd_27 : decode cX5_readEnd 27 = .ok (.dup, 1) := by decide +kernel
theorem dX5_readEnd_28 : decode cX5_readEnd 28 = .ok (.getfield 25, 3) := by decide +kernel
theorem dX5_readEnd_31 : decode cX5_readEnd 31 = .ok (.iconst 1, 1) := by decide +kernel
theorem dX5_readEnd_32 : decode cX5_readEnd 32 = .ok (.iadd, 1) := by decide +kernel
theorem dX5_readEnd_33 : decode cX5_readEnd 33 = .ok (.putfield 25, 3) := by decide +kernel
theorem dX5_readEnd_36 : decode cX5_readEnd 36 = .ok (.goto 12, 3) := by decide +kernel
theorem dX5_readEnd_39 : decode cX5_readEnd 39 = .ok (.aload_n 0, 1) := by decide +kernel
theorem dX5_readEnd_40 : decode cX5_readEnd 40 = .ok (.iconst 1, 1) := by decide +kernel
theorem dX5_readEnd_41 : decode cX5_readEnd 41 = .ok (.aload_n 0, 1) := by decide +kernel
theorem dX5_readEnd_42 : decode cX5_readEnd 42 = .ok (.getfield 25, 3) := by decide +kernel
theorem dX5_readEnd_45 : decode cX5_readEnd 45 = .ok (.invokevirtual 54, 3) := by decide +kernel
theorem dX5_readEnd_48 : decode cX5_readEnd 48 = .ok (.return_, 1) := by decide +kernel
theorem dX5_enter_0 : decode cX5_enter 0 = .ok (.iload_n 1, 1) := by decide +kernel
theorem dX5_enter_1 : decode cX5_enter 1 = .ok (.bipush 101, 2) := by decide +kernel
theorem dX5_enter_3 : decode cX5_enter 3 = .ok (.if_icmp .ne 17, 3) := by decide +kernel
theorem dX5_enter_6 : decode cX5_enter 6 = .ok (.aload_n 0, 1) := by decide +kernel
theorem dX5_enter_7 : decode cX5_enter 7 = .ok (.getfield 12, 3) := by decide +kernel
theorem dX5_enter_10 : decode cX5_enter 10 = .ok (.aload_n 0, 1) := by decide +kernel
theorem dX5_enter_11 : decode cX5_enter 11 = .ok (.getfield 18, 3) := by decide +kernel
theorem dX5_enter_14 : decode cX5_enter 14 = .ok (.invokevirtual 105, 3) := by decide +kernel
theorem dX5_enter_17 : decode cX5_enter 17 = .ok (.goto 34, 3) := by decide +kernel
theorem dX5_enter_20 : decode cX5_enter 20 = .ok (.iload_n 1, 1) := by decide +kernel
theorem dX5_enter_21 : decode cX5_enter 21 = .ok (.bipush 103, 2) := by decide +kernel
theorem dX5_enter_23 : decode cX5_enter 23 = .ok (.if_icmp .ne 17, 3) := by decide +kernel
theorem dX5_enter_26 : decode cX5_enter 26 = .ok (.aload_n 0, 1) := by decide +kernel
theorem dX5_enter_27 : decode cX5_enter 27 = .ok (.getfield 12, 3) := by decide +kernel
theorem dX5_enter_30 : decode cX5_enter 30 = .ok (.aload_n 0, 1) := by decide +kernel
theorem dX5_enter_31 : decode cX5_enter 31 = .ok (.getfield 18, 3) := by decide +kernel
theorem dX5_enter_34 : decode cX5_enter 34 = .ok (.invokevirtual 109, 3) := by decide +kernel
theorem dX5_enter_37 : decode cX5_enter 37 = .ok (.goto 14, 3) := by decide +kernel
theorem dX5_enter_40 : decode cX5_enter 40 = .ok (.aload_n 0, 1) := by decide +kernel
theorem dX5_enter_41 : decode cX5_enter 41 = .ok (.getfield 12, 3) := by decide +kernel
theorem dX5_enter_44 : decode cX5_enter 44 = .ok (.aload_n 0, 1) := by decide +kernel
theorem dX5_enter_45 : decode cX5_enter 45 = .ok (.getfield 18, 3) := by decide +kernel
theorem dX5_enter_48 : decode cX5_enter 48 = .ok (.invokevirtual 112, 3) := by decide +kernel
theorem dX5_enter_51 : decode cX5_enter 51 = .ok (.return_, 1) := by decide +kernel
theorem dX5_skipBlanks_0 : decode cX5_skipBlanks 0 = .ok (.aload_n 0, 1) := by decide +kernel
theorem dX5_skipBlanks_1 : decode cX5_skipBlanks 1 = .ok (.getfield 25, 3) := by decide +kernel
theorem dX5_skipBlanks_4 : decode cX5_skipBlanks 4 = .ok (.aload_n 1, 1) := by decide +kernel
theorem dX5_skipBlanks_5 : decode cX5_skipBlanks 5 = .ok (.getfield 39, 3) := by decide +kernel
theorem dX5_skipBlanks_8 : decode cX5_skipBlanks 8 = .ok (.if_icmp .ge 29, 3) := by decide +kernel
theorem dX5_skipBlanks_11 : decode cX5_skipBlanks 11 = .ok (.aload_n 1, 1) := by decide +kernel
theorem dX5_skipBlanks_12 : decode cX5_skipBlanks 12 = .ok (.aload_n 0, 1) := by decide +kernel
theorem dX5_skipBlanks_13 : decode cX5_skipBlanks 13 = .ok (.getfield 25, 3) := by decide +kernel
theorem dX5_skipBlanks_16 : decode cX5_skipBlanks 16 = .ok (.invokevirtual 47, 3) := by decide +kernel
theorem dX5_skipBlanks_19 : decode cX5_skipBlanks 19 = .ok (.bipush 32, 2) := by decide +kernel
theorem dX5_skipBlanks_21 : decode cX5_skipBlanks 21 = .ok (.if_icmp .ne 16, 3) := by decide +kernel
theorem dX5_skipBlanks_24 : decode cX5_skipBlanks 24 = .ok (.aload_n 0, 1) := by decide +kernel
theorem dX5_skipBlanks_25 : decode cX5_skipBlanks 25 = .ok (.dup, 1) := by decide +kernel
theorem dX5_skipBlanks_26 : decode cX5_skipBlanks 26 = .ok (.getfield 25, 3) := by decide +kernel
theorem dX5_skipBlanks_29 : decode cX5_skipBlanks 29 = .ok (.iconst 1, 1) := by decide +kernel
theorem dX5_skipBlanks_30 : decode cX5_skipBlanks 30 = .ok (.iadd, 1) := by decide +kernel
theorem dX5_skipBlanks_31 : decode cX5_skipBlanks 31 = .ok (.putfield 25, 3) := by decide +kernel
theorem dX5_skipBlanks_34 : decode cX5_skipBlanks 34 = .ok (.goto (-34), 3) := by decide +kernel
theorem dX5_skipBlanks_37 : decode cX5_skipBlanks 37 = .ok (.return_, 1) := by decide +kernel
theorem dX5_fail_0 : decode cX5_fail 0 = .ok (.aload_n 0, 1) := by decide +kernel
theorem dX5_fail_1 : decode cX5_fail 1 = .ok (.iload_n 1, 1) := by decide +kernel
theorem dX5_fail_2 : decode cX5_fail 2 = .ok (.putfield 29, 3) := by decide +kernel
theorem dX5_fail_5 : decode cX5_fail 5 = .ok (.aload_n 0, 1) := by decide +kernel
theorem dX5_fail_6 : decode cX5_fail 6 = .ok (.iload_n 2, 1) := by decide +kernel
theorem dX5_fail_7 : decode cX5_fail 7 = .ok (.putfield 32, 3) := by decide +kernel
theorem dX5_fail_10 : decode cX5_fail 10 = .ok (.return_, 1) := by decide +kernel
theorem dX5_isFigure_0 : decode cX5_isFigure 0 = .ok (.iload_n 0, 1) := by decide +kernel
theorem dX5_isFigure_1 : decode cX5_isFigure 1 = .ok (.bipush 48, 2) := by decide +kernel
theorem dX5_isFigure_3 : decode cX5_isFigure 3 = .ok (.if_icmp .lt 13, 3) := by decide +kernel
theorem dX5_isFigure_6 : decode cX5_isFigure 6 = .ok (.iload_n 0, 1) := by decide +kernel
theorem dX5_isFigure_7 : decode cX5_isFigure 7 = .ok (.bipush 57, 2) := by decide +kernel
theorem dX5_isFigure_9 : decode cX5_isFigure 9 = .ok (.if_icmp .gt 7, 3) := by decide +kernel
theorem dX5_isFigure_12 : decode cX5_isFigure 12 = .ok (.iconst 1, 1) := by decide +kernel
theorem dX5_isFigure_13 : decode cX5_isFigure 13 = .ok (.goto 4, 3) := by decide +kernel
theorem dX5_isFigure_16 : decode cX5_isFigure 16 = .ok (.iconst 0, 1) := by decide +kernel
theorem dX5_isFigure_17 : decode cX5_isFigure 17 = .ok (.ireturn, 1) := by decide +kernel
theorem dX6_init_0 : decode cX6_init 0 = .ok (.aload_n 0, 1) := by decide +kernel
theorem dX6_init_1 : decode cX6_init 1 = .ok (.invokespecial 3, 3) := by decide +kernel
theorem dX6_init_4 : decode cX6_init 4 = .ok (.aload_n 0, 1) := by decide +kernel
theorem dX6_init_5 : decode cX6_init 5 = .ok (.iconst 4, 1) := by decide +kernel
