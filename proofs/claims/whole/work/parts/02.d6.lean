theorem dX11_keepCode_19 : decode cX11_keepCode 19 = .ok (.bipush 17, 2) := by decide +kernel
theorem dX11_keepCode_21 : decode cX11_keepCode 21 = .ok (.iload_n 2, 1) := by decide +kernel
theorem dX11_keepCode_22 : decode cX11_keepCode 22 = .ok (.iadd, 1) := by decide +kernel
theorem dX11_keepCode_23 : decode cX11_keepCode 23 = .ok (.iconst 1, 1) := by decide +kernel
theorem dX11_keepCode_24 : decode cX11_keepCode 24 = .ok (.isub, 1) := by decide +kernel
theorem dX11_keepCode_25 : decode cX11_keepCode 25 = .ok (.iaload, 1) := by decide +kernel
theorem dX11_keepCode_26 : decode cX11_keepCode 26 = .ok (.iastore, 1) := by decide +kernel
theorem dX11_keepCode_27 : decode cX11_keepCode 27 = .ok (.iinc 2 (-1), 3) := by decide +kernel
theorem dX11_keepCode_30 : decode cX11_keepCode 30 = .ok (.goto (-27), 3) := by decide +kernel
theorem dX11_keepCode_33 : decode cX11_keepCode 33 = .ok (.aload_n 0, 1) := by decide +kernel
theorem dX11_keepCode_34 : decode cX11_keepCode 34 = .ok (.getfield 34, 3) := by decide +kernel
theorem dX11_keepCode_37 : decode cX11_keepCode 37 = .ok (.bipush 17, 2) := by decide +kernel
theorem dX11_keepCode_39 : decode cX11_keepCode 39 = .ok (.iload_n 1, 1) := by decide +kernel
theorem dX11_keepCode_40 : decode cX11_keepCode 40 = .ok (.iastore, 1) := by decide +kernel
theorem dX11_keepCode_41 : decode cX11_keepCode 41 = .ok (.aload_n 0, 1) := by decide +kernel
theorem dX11_keepCode_42 : decode cX11_keepCode 42 = .ok (.getfield 34, 3) := by decide +kernel
theorem dX11_keepCode_45 : decode cX11_keepCode 45 = .ok (.bipush 16, 2) := by decide +kernel
theorem dX11_keepCode_47 : decode cX11_keepCode 47 = .ok (.dup2, 1) := by decide +kernel
theorem dX11_keepCode_48 : decode cX11_keepCode 48 = .ok (.iaload, 1) := by decide +kernel
theorem dX11_keepCode_49 : decode cX11_keepCode 49 = .ok (.aload_n 0, 1) := by decide +kernel
theorem dX11_keepCode_50 : decode cX11_keepCode 50 = .ok (.getfield 34, 3) := by decide +kernel
theorem dX11_keepCode_53 : decode cX11_keepCode 53 = .ok (.bipush 16, 2) := by decide +kernel
theorem dX11_keepCode_55 : decode cX11_keepCode 55 = .ok (.iaload, 1) := by decide +kernel
theorem dX11_keepCode_56 : decode cX11_keepCode 56 = .ok (.bipush 8, 2) := by decide +kernel
theorem dX11_keepCode_58 : decode cX11_keepCode 58 = .ok (.if_icmp .ge 7, 3) := by decide +kernel
theorem dX11_keepCode_61 : decode cX11_keepCode 61 = .ok (.iconst 1, 1) := by decide +kernel
theorem dX11_keepCode_62 : decode cX11_keepCode 62 = .ok (.goto 4, 3) := by decide +kernel
theorem dX11_keepCode_65 : decode cX11_keepCode 65 = .ok (.iconst 0, 1) := by decide +kernel
theorem dX11_keepCode_66 : decode cX11_keepCode 66 = .ok (.iadd, 1) := by decide +kernel
theorem dX11_keepCode_67 : decode cX11_keepCode 67 = .ok (.iastore, 1) := by decide +kernel
theorem dX11_keepCode_68 : decode cX11_keepCode 68 = .ok (.return_, 1) := by decide +kernel
theorem dX11_sendBy_0 : decode cX11_sendBy 0 = .ok (.aload_n 0, 1) := by decide +kernel
theorem dX11_sendBy_1 : decode cX11_sendBy 1 = .ok (.getfield 28, 3) := by decide +kernel
theorem dX11_sendBy_4 : decode cX11_sendBy 4 = .ok (.iload_n 1, 1) := by decide +kernel
theorem dX11_sendBy_5 : decode cX11_sendBy 5 = .ok (.iaload, 1) := by decide +kernel
theorem dX11_sendBy_6 : decode cX11_sendBy 6 = .ok (.aload_n 0, 1) := by decide +kernel
theorem dX11_sendBy_7 : decode cX11_sendBy 7 = .ok (.getfield 34, 3) := by decide +kernel
theorem dX11_sendBy_10 : decode cX11_sendBy 10 = .ok (.iconst 5, 1) := by decide +kernel
theorem dX11_sendBy_11 : decode cX11_sendBy 11 = .ok (.iload_n 1, 1) := by decide +kernel
theorem dX11_sendBy_12 : decode cX11_sendBy 12 = .ok (.iadd, 1) := by decide +kernel
theorem dX11_sendBy_13 : decode cX11_sendBy 13 = .ok (.iaload, 1) := by decide +kernel
theorem dX11_sendBy_14 : decode cX11_sendBy 14 = .ok (.invokestatic 193, 3) := by decide +kernel
theorem dX11_sendBy_17 : decode cX11_sendBy 17 = .ok (.istore_n 3, 1) := by decide +kernel
theorem dX11_sendBy_18 : decode cX11_sendBy 18 = .ok (.aload_n 0, 1) := by decide +kernel
theorem dX11_sendBy_19 : decode cX11_sendBy 19 = .ok (.aload_n 0, 1) := by decide +kernel
theorem dX11_sendBy_20 : decode cX11_sendBy 20 = .ok (.getfield 34, 3) := by decide +kernel
theorem dX11_sendBy_23 : decode cX11_sendBy 23 = .ok (.iload_n 1, 1) := by decide +kernel
theorem dX11_sendBy_24 : decode cX11_sendBy 24 = .ok (.iaload, 1) := by decide +kernel
theorem dX11_sendBy_25 : decode cX11_sendBy 25 = .ok (.iload_n 2, 1) := by decide +kernel
theorem dX11_sendBy_26 : decode cX11_sendBy 26 = .ok (.iload_n 3, 1) := by decide +kernel
theorem dX11_sendBy_27 : decode cX11_sendBy 27 = .ok (.invokevirtual 217, 3) := by decide +kernel
theorem dX11_sendBy_30 : decode cX11_sendBy 30 = .ok (.istore 4, 2) := by decide +kernel
theorem dX11_sendBy_32 : decode cX11_sendBy 32 = .ok (.iload_n 2, 1) := by decide +kernel
theorem dX11_sendBy_33 : decode cX11_sendBy 33 = .ok (.aload_n 0, 1) := by decide +kernel
theorem dX11_sendBy_34 : decode cX11_sendBy 34 = .ok (.getfield 166, 3) := by decide +kernel
theorem dX11_sendBy_37 : decode cX11_sendBy 37 = .ok (.if_icmp .le 7, 3) := by decide +kernel
theorem dX11_sendBy_40 : decode cX11_sendBy 40 = .ok (.iload_n 2, 1) := by decide +kernel
theorem dX11_sendBy_41 : decode cX11_sendBy 41 = .ok (.goto 7, 3) := by decide +kernel
theorem dX11_sendBy_44 : decode cX11_sendBy 44 = .ok (.aload_n 0, 1) := by decide +kernel
theorem dX11_sendBy_45 : decode cX11_sendBy 45 = .ok (.getfield 166, 3) := by decide +kernel
theorem dX11_sendBy_48 : decode cX11_sendBy 48 = .ok (.istore 5, 2) := by decide +kernel
theorem dX11_sendBy_50 : decode cX11_sendBy 50 = .ok (.aload_n 0, 1) := by decide +kernel
theorem dX11_sendBy_51 : decode cX11_sendBy 51 = .ok (.getfield 34, 3) := by decide +kernel
theorem dX11_sendBy_54 : decode cX11_sendBy 54 = .ok (.iload_n 1, 1) := by decide +kernel
theorem dX11_sendBy_55 : decode cX11_sendBy 55 = .ok (.iaload, 1) := by decide +kernel
theorem dX11_sendBy_56 : decode cX11_sendBy 56 = .ok (.aload_n 0, 1) := by decide +kernel
theorem dX11_sendBy_57 : decode cX11_sendBy 57 = .ok (.getfield 34, 3) := by decide +kernel
theorem dX11_sendBy_60 : decode cX11_sendBy 60 = .ok (.bipush 15, 2) := by decide +kernel
theorem dX11_sendBy_62 : decode cX11_sendBy 62 = .ok (.iaload, 1) := by decide +kernel
theorem dX11_sendBy_63 : decode cX11_sendBy 63 = .ok (.invokestatic 211, 3) := by decide +kernel
theorem dX11_sendBy_66 : decode cX11_sendBy 66 = .ok (.iload 5, 2) := by decide +kernel
theorem dX11_sendBy_68 : decode cX11_sendBy 68 = .ok (.if_icmp .gt 8, 3) := by decide +kernel
theorem dX11_sendBy_71 : decode cX11_sendBy 71 = .ok (.aload_n 0, 1) := by decide +kernel
theorem dX11_sendBy_72 : decode cX11_sendBy 72 = .ok (.iload_n 3, 1) := by decide +kernel
theorem dX11_sendBy_73 : decode cX11_sendBy 73 = .ok (.invokevirtual 220, 3) := by decide +kernel
theorem dX11_sendBy_76 : decode cX11_sendBy 76 = .ok (.iload 4, 2) := by decide +kernel
theorem dX11_sendBy_78 : decode cX11_sendBy 78 = .ok (.ireturn, 1) := by decide +kernel
theorem dX11_stepOn_0 : decode cX11_stepOn 0 = .ok (.aload_n 0, 1) := by decide +kernel
theorem dX11_stepOn_1 : decode cX11_stepOn 1 = .ok (.getfield 34, 3) := by decide +kernel
theorem dX11_stepOn_4 : decode cX11_stepOn 4 = .ok (.iconst 5, 1) := by decide +kernel
theorem dX11_stepOn_5 : decode cX11_stepOn 5 = .ok (.iload_n 1, 1) := by decide +kernel
theorem dX11_stepOn_6 : decode cX11_stepOn 6 = .ok (.iadd, 1) := by decide +kernel
theorem dX11_stepOn_7 : decode cX11_stepOn 7 = .ok (.aload_n 0, 1) := by decide +kernel
theorem dX11_stepOn_8 : decode cX11_stepOn 8 = .ok (.getfield 19, 3) := by decide +kernel
theorem dX11_stepOn_11 : decode cX11_stepOn 11 = .ok (.iload_n 1, 1) := by decide +kernel
theorem dX11_stepOn_12 : decode cX11_stepOn 12 = .ok (.iaload, 1) := by decide +kernel
theorem dX11_stepOn_13 : decode cX11_stepOn 13 = .ok (.iconst 3, 1) := by decide +kernel
theorem dX11_stepOn_14 : decode cX11_stepOn 14 = .ok (.if_icmp .ne 14, 3) := by decide +kernel
theorem dX11_stepOn_17 : decode cX11_stepOn 17 = .ok (.aload_n 0, 1) := by decide +kernel
theorem dX11_stepOn_18 : decode cX11_stepOn 18 = .ok (.getfield 34, 3) := by decide +kernel
theorem dX11_stepOn_21 : decode cX11_stepOn 21 = .ok (.iconst 5, 1) := by decide +kernel
theorem dX11_stepOn_22 : decode cX11_stepOn 22 = .ok (.iload_n 1, 1) := by decide +kernel
theorem dX11_stepOn_23 : decode cX11_stepOn 23 = .ok (.iadd, 1) := by decide +kernel
theorem dX11_stepOn_24 : decode cX11_stepOn 24 = .ok (.iaload, 1) := by decide +kernel
theorem dX11_stepOn_25 : decode cX11_stepOn 25 = .ok (.goto 17, 3) := by decide +kernel
theorem dX11_stepOn_28 : decode cX11_stepOn 28 = .ok (.aload_n 0, 1) := by decide +kernel
theorem dX11_stepOn_29 : decode cX11_stepOn 29 = .ok (.getfield 34, 3) := by decide +kernel
theorem dX11_stepOn_32 : decode cX11_stepOn 32 = .ok (.iconst 5, 1) := by decide +kernel
theorem dX11_stepOn_33 : decode cX11_stepOn 33 = .ok (.iload_n 1, 1) := by decide +kernel
theorem dX11_stepOn_34 : decode cX11_stepOn 34 = .ok (.iadd, 1) := by decide +kernel
theorem dX11_stepOn_35 : decode cX11_stepOn 35 = .ok (.iaload, 1) := by decide +kernel
theorem dX11_stepOn_36 : decode cX11_stepOn 36 = .ok (.iconst 1, 1) := by decide +kernel
theorem dX11_stepOn_37 : decode cX11_stepOn 37 = .ok (.iadd, 1) := by decide +kernel
theorem dX11_stepOn_38 : decode cX11_stepOn 38 = .ok (.sipush 10000, 3) := by decide +kernel
theorem dX11_stepOn_41 : decode cX11_stepOn 41 = .ok (.irem, 1) := by decide +kernel
theorem dX11_stepOn_42 : decode cX11_stepOn 42 = .ok (.iastore, 1) := by decide +kernel
theorem dX11_stepOn_43 : decode cX11_stepOn 43 = .ok (.return_, 1) := by decide +kernel
theorem dX11_pressNow_0 : decode cX11_pressNow 0 = .ok (.aload_n 0, 1) := by decide +kernel
theorem dX11_pressNow_1 : decode cX11_pressNow 1 = .ok (.getfield 34, 3) := by decide +kernel
theorem dX11_pressNow_4 : decode cX11_pressNow 4 = .ok (.bipush 10, 2) := by decide +kernel
theorem dX11_pressNow_6 : decode cX11_pressNow 6 = .ok (.iload_n 1, 1) := by decide +kernel
theorem dX11_pressNow_7 : decode cX11_pressNow 7 = .ok (.iadd, 1) := by decide +kernel
theorem dX11_pressNow_8 : decode cX11_pressNow 8 = .ok (.dup2, 1) := by decide +kernel
theorem dX11_pressNow_9 : decode cX11_pressNow 9 = .ok (.iaload, 1) := by decide +kernel
theorem dX11_pressNow_10 : decode cX11_pressNow 10 = .ok (.iconst 1, 1) := by decide +kernel
theorem dX11_pressNow_11 : decode cX11_pressNow 11 = .ok (.isub, 1) := by decide +kernel
theorem dX11_pressNow_12 : decode cX11_pressNow 12 = .ok (.iastore, 1) := by decide +kernel
theorem dX11_pressNow_13 : decode cX11_pressNow 13 = .ok (.aload_n 0, 1) := by decide +kernel
theorem dX11_pressNow_14 : decode cX11_pressNow 14 = .ok (.getfield 19, 3) := by decide +kernel
theorem dX11_pressNow_17 : decode cX11_pressNow 17 = .ok (.iload_n 1, 1) := by decide +kernel
theorem dX11_pressNow_18 : decode cX11_pressNow 18 = .ok (.iaload, 1) := by decide +kernel
theorem dX11_pressNow_19 : decode cX11_pressNow 19 = .ok (.iconst 2, 1) := by decide +kernel
theorem dX11_pressNow_20 : decode cX11_pressNow 20 = .ok (.if_icmp .ne 21, 3) := by decide +kernel
theorem dX11_pressNow_23 : decode cX11_pressNow 23 = .ok (.aload_n 0, 1) := by decide +kernel
theorem dX11_pressNow_24 : decode cX11_pressNow 24 = .ok (.getfield 34, 3) := by decide +kernel
theorem dX11_pressNow_27 : decode cX11_pressNow 27 = .ok (.bipush 10, 2) := by decide +kernel
theorem dX11_pressNow_29 : decode cX11_pressNow 29 = .ok (.iload_n 1, 1) := by decide +kernel
theorem dX11_pressNow_30 : decode cX11_pressNow 30 = .ok (.iadd, 1) := by decide +kernel
theorem dX11_pressNow_31 : decode cX11_pressNow 31 = .ok (.iaload, 1) := by decide +kernel
theorem dX11_pressNow_32 : decode cX11_pressNow 32 = .ok (.bipush 20, 2) := by decide +kernel
theorem dX11_pressNow_34 : decode cX11_pressNow 34 = .ok (.if_icmp .ge 7, 3) := by decide +kernel
theorem dX11_pressNow_37 : decode cX11_pressNow 37 = .ok (.iconst 1, 1) := by decide +kernel
theorem dX11_pressNow_38 : decode cX11_pressNow 38 = .ok (.goto 4, 3) := by decide +kernel
theorem dX11_pressNow_41 : decode cX11_pressNow 41 = .ok (.iconst 0, 1) := by decide +kernel
theorem dX11_pressNow_42 : decode cX11_pressNow 42 = .ok (.istore_n 2, 1) := by decide +kernel
theorem dX11_pressNow_43 : decode cX11_pressNow 43 = .ok (.iload_n 2, 1) := by decide +kernel
theorem dX11_pressNow_44 : decode cX11_pressNow 44 = .ok (.ifCond .eq 14, 3) := by decide +kernel
theorem dX11_pressNow_47 : decode cX11_pressNow 47 = .ok (.aload_n 0, 1) := by decide +kernel
theorem dX11_pressNow_48 : decode cX11_pressNow 48 = .ok (.getfield 25, 3) := by decide +kernel
theorem dX11_pressNow_51 : decode cX11_pressNow 51 = .ok (.iload_n 1, 1) := by decide +kernel
theorem dX11_pressNow_52 : decode cX11_pressNow 52 = .ok (.iaload, 1) := by decide +kernel
theorem dX11_pressNow_53 : decode cX11_pressNow 53 = .ok (.iconst 2, 1) := by decide +kernel
theorem dX11_pressNow_54 : decode cX11_pressNow 54 = .ok (.idiv, 1) := by decide +kernel
theorem dX11_pressNow_55 : decode cX11_pressNow 55 = .ok (.goto 9, 3) := by decide +kernel
theorem dX11_pressNow_58 : decode cX11_pressNow 58 = .ok (.aload_n 0, 1) := by decide +kernel
theorem dX11_pressNow_59 : decode cX11_pressNow 59 = .ok (.getfield 25, 3) := by decide +kernel
theorem dX11_pressNow_62 : decode cX11_pressNow 62 = .ok (.iload_n 1, 1) := by decide +kernel
theorem dX11_pressNow_63 : decode cX11_pressNow 63 = .ok (.iaload, 1) := by decide +kernel
theorem dX11_pressNow_64 : decode cX11_pressNow 64 = .ok (.istore_n 3, 1) := by decide +kernel
theorem dX11_pressNow_65 : decode cX11_pressNow 65 = .ok (.aload_n 0, 1) := by decide +kernel
theorem dX11_pressNow_66 : decode cX11_pressNow 66 = .ok (.iload_n 1, 1) := by decide +kernel
theorem dX11_pressNow_67 : decode cX11_pressNow 67 = .ok (.invokevirtual 224, 3) := by decide +kernel
theorem dX11_pressNow_70 : decode cX11_pressNow 70 = .ok (.aload_n 0, 1) := by decide +kernel
theorem dX11_pressNow_71 : decode cX11_pressNow 71 = .ok (.iload_n 1, 1) := by decide +kernel
theorem dX11_pressNow_72 : decode cX11_pressNow 72 = .ok (.iload_n 3, 1) := by decide +kernel
theorem dX11_pressNow_73 : decode cX11_pressNow 73 = .ok (.invokevirtual 227, 3) := by decide +kernel
theorem dX11_pressNow_76 : decode cX11_pressNow 76 = .ok (.istore 4, 2) := by decide +kernel
theorem dX11_pressNow_78 : decode cX11_pressNow 78 = .ok (.aload_n 0, 1) := by decide +kernel
theorem dX11_pressNow_79 : decode cX11_pressNow 79 = .ok (.getfield 19, 3) := by decide +kernel
theorem dX11_pressNow_82 : decode cX11_pressNow 82 = .ok (.iload_n 1, 1) := by decide +kernel
theorem dX11_pressNow_83 : decode cX11_pressNow 83 = .ok (.iaload, 1) := by decide +kernel
theorem dX11_pressNow_84 : decode cX11_pressNow 84 = .ok (.iconst 1, 1) := by decide +kernel
theorem dX11_pressNow_85 : decode cX11_pressNow 85 = .ok (.if_icmp .ne 19, 3) := by decide +kernel
theorem dX11_pressNow_88 : decode cX11_pressNow 88 = .ok (.aload_n 0, 1) := by decide +kernel
theorem dX11_pressNow_89 : decode cX11_pressNow 89 = .ok (.iload_n 1, 1) := by decide +kernel
theorem dX11_pressNow_90 : decode cX11_pressNow 90 = .ok (.invokevirtual 224, 3) := by decide +kernel
theorem dX11_pressNow_93 : decode cX11_pressNow 93 = .ok (.iload 4, 2) := by decide +kernel
theorem dX11_pressNow_95 : decode cX11_pressNow 95 = .ok (.aload_n 0, 1) := by decide +kernel
theorem dX11_pressNow_96 : decode cX11_pressNow 96 = .ok (.iload_n 1, 1) := by decide +kernel
theorem dX11_pressNow_97 : decode cX11_pressNow 97 = .ok (.iload_n 3, 1) := by decide +kernel
theorem dX11_pressNow_98 : decode cX11_pressNow 98 = .ok (.invokevirtual 227, 3) := by decide +kernel
theorem dX11_pressNow_101 : decode cX11_pressNow 101 = .ok (.ior, 1) := by decide +kernel
theorem dX11_pressNow_102 : decode cX11_pressNow 102 = .ok (.istore 4, 2) := by decide +kernel
theorem dX11_pressNow_104 : decode cX11_pressNow 104 = .ok (.iload 4, 2) := by decide +kernel
theorem dX11_pressNow_106 : decode cX11_pressNow 106 = .ok (.ireturn, 1) := by decide +kernel
theorem dX11_openings_0 : decode cX11_openings 0 = .ok (.iconst 0, 1) := by decide +kernel
theorem dX11_openings_1 : decode cX11_openings 1 = .ok (.istore_n 1, 1) := by decide +kernel
theorem dX11_openings_2 : decode cX11_openings 2 = .ok (.iconst 0, 1) := by decide +kernel
theorem dX11_openings_3 : decode cX11_openings 3 = .ok (.istore_n 2, 1) := by decide +kernel
theorem dX11_openings_4 : decode cX11_openings 4 = .ok (.iload_n 2, 1) := by decide +kernel
theorem dX11_openings_5 : decode cX11_openings 5 = .ok (.aload_n 0, 1) := by decide +kernel
theorem dX11_openings_6 : decode cX11_openings 6 = .ok (.getfield 99, 3) := by decide +kernel
theorem dX11_openings_9 : decode cX11_openings 9 = .ok (.if_icmp .ge 21, 3) := by decide +kernel
theorem dX11_openings_12 : decode cX11_openings 12 = .ok (.iload_n 1, 1) := by decide +kernel
theorem dX11_openings_13 : decode cX11_openings 13 = .ok (.aload_n 0, 1) := by decide +kernel
theorem dX11_openings_14 : decode cX11_openings 14 = .ok (.getfield 34, 3) := by decide +kernel
theorem dX11_openings_17 : decode cX11_openings 17 = .ok (.bipush 26, 2) := by decide +kernel
theorem dX11_openings_19 : decode cX11_openings 19 = .ok (.iload_n 2, 1) := by decide +kernel
theorem dX11_openings_20 : decode cX11_openings 20 = .ok (.iadd, 1) := by decide +kernel
theorem dX11_openings_21 : decode cX11_openings 21 = .ok (.iaload, 1) := by decide +kernel
theorem dX11_openings_22 : decode cX11_openings 22 = .ok (.iadd, 1) := by decide +kernel
theorem dX11_openings_23 : decode cX11_openings 23 = .ok (.istore_n 1, 1) := by decide +kernel
theorem dX11_openings_24 : decode cX11_openings 24 = .ok (.iinc 2 1, 3) := by decide +kernel
theorem dX11_openings_27 : decode cX11_openings 27 = .ok (.goto (-23), 3) := by decide +kernel
theorem dX11_openings_30 : decode cX11_openings 30 = .ok (.iload_n 1, 1) := by decide +kernel
theorem dX11_openings_31 : decode cX11_openings 31 = .ok (.ireturn, 1) := by decide +kernel
theorem dX11_told_0 : decode cX11_told 0 = .ok (.iload_n 1, 1) := by decide +kernel
theorem dX11_told_1 : decode cX11_told 1 = .ok (.tableswitch 152 0 12 #[67, 80, 85, 90, 95, 103, 111, 116, 124, 132, 137, 142, 147], 67) := by decide +kernel
theorem dX11_told_68 : decode cX11_told 68 = .ok (.aload_n 0, 1) := by decide +kernel
theorem dX11_told_69 : decode cX11_told 69 = .ok (.getfield 163, 3) := by decide +kernel
theorem dX11_told_72 : decode cX11_told 72 = .ok (.ifCond .eq 7, 3) := by decide +kernel
theorem dX11_told_75 : decode cX11_told 75 = .ok (.iconst 1, 1) := by decide +kernel
theorem dX11_told_76 : decode cX11_told 76 = .ok (.goto 4, 3) := by decide +kernel
theorem dX11_told_79 : decode cX11_told 79 = .ok (.iconst 0, 1) := by decide +kernel
theorem dX11_told_80 : decode cX11_told 80 = .ok (.ireturn, 1) := by decide +kernel
theorem dX11_told_81 : decode cX11_told 81 = .ok (.aload_n 0, 1) := by decide +kernel
theorem dX11_told_82 : decode cX11_told 82 = .ok (.getfield 99, 3) := by decide +kernel
theorem dX11_told_85 : decode cX11_told 85 = .ok (.ireturn, 1) := by decide +kernel
theorem dX11_told_86 : decode cX11_told 86 = .ok (.aload_n 0, 1) := by decide +kernel
theorem dX11_told_87 : decode cX11_told 87 = .ok (.getfield 102, 3) := by decide +kernel
theorem dX11_told_90 : decode cX11_told 90 = .ok (.ireturn, 1) := by decide +kernel
theorem dX11_told_91 : decode cX11_told 91 = .ok (.aload_n 0, 1) := by decide +kernel
theorem dX11_told_92 : decode cX11_told 92 = .ok (.getfield 112, 3) := by decide +kernel
theorem dX11_told_95 : decode cX11_told 95 = .ok (.ireturn, 1) := by decide +kernel
theorem dX11_told_96 : decode cX11_told 96 = .ok (.aload_n 0, 1) := by decide +kernel
theorem dX11_told_97 : decode cX11_told 97 = .ok (.getfield 34, 3) := by decide +kernel
theorem dX11_told_100 : decode cX11_told 100 = .ok (.bipush 58, 2) := by decide +kernel
theorem dX11_told_102 : decode cX11_told 102 = .ok (.iaload, 1) := by decide +kernel
theorem dX11_told_103 : decode cX11_told 103 = .ok (.ireturn, 1) := by decide +kernel
theorem dX11_told_104 : decode cX11_told 104 = .ok (.aload_n 0, 1) := by decide +kernel
theorem dX11_told_105 : decode cX11_told 105 = .ok (.getfield 34, 3) := by decide +kernel
theorem dX11_told_108 : decode cX11_told 108 = .ok (.bipush 15, 2) := by decide +kernel
theorem dX11_told_110 : decode cX11_told 110 = .ok (.iaload, 1) := by decide +kernel
theorem dX11_told_111 : decode cX11_told 111 = .ok (.ireturn, 1) := by decide +kernel
theorem dX11_told_112 : decode cX11_told 112 = .ok (.aload_n 0, 1) := by decide +kernel
theorem dX11_told_113 : decode cX11_told 113 = .ok (.getfield 166, 3) := by decide +kernel
theorem dX11_told_116 : decode cX11_told 116 = .ok (.ireturn, 1) := by decide +kernel
theorem dX11_told_117 : decode cX11_told 117 = .ok (.aload_n 0, 1) := by decide +kernel
theorem dX11_told_118 : decode cX11_told 118 = .ok (.getfield 34, 3) := by decide +kernel
theorem dX11_told_121 : decode cX11_told 121 = .ok (.bipush 16, 2) := by decide +kernel
theorem dX11_told_123 : decode cX11_told 123 = .ok (.iaload, 1) := by decide +kernel
theorem dX11_told_124 : decode cX11_told 124 = .ok (.ireturn, 1) := by decide +kernel
theorem dX11_told_125 : decode cX11_told 125 = .ok (.aload_n 0, 1) := by decide +kernel
theorem dX11_told_126 : decode cX11_told 126 = .ok (.getfield 34, 3) := by decide +kernel
theorem dX11_told_129 : decode cX11_told 129 = .ok (.bipush 25, 2) := by decide +kernel
theorem dX11_told_131 : decode cX11_told 131 = .ok (.iaload, 1) := by decide +kernel
theorem dX11_told_132 : decode cX11_told 132 = .ok (.ireturn, 1) := by decide +kernel
theorem dX11_told_133 : decode cX11_told 133 = .ok (.aload_n 0, 1) := by decide +kernel
theorem dX11_told_134 : decode cX11_told 134 = .ok (.invokevirtual 230, 3) := by decide +kernel
theorem dX11_told_137 : decode cX11_told 137 = .ok (.ireturn, 1) := by decide +kernel
theorem dX11_told_138 : decode cX11_told 138 = .ok (.aload_n 0, 1) := by decide +kernel
theorem dX11_told_139 : decode cX11_told 139 = .ok (.getfield 182, 3) := by decide +kernel
theorem dX11_told_142 : decode cX11_told 142 = .ok (.ireturn, 1) := by decide +kernel
theorem dX11_told_143 : decode cX11_told 143 = .ok (.aload_n 0, 1) := by decide +kernel
theorem dX11_told_144 : decode cX11_told 144 = .ok (.getfield 185, 3) := by decide +kernel
theorem dX11_told_147 : decode cX11_told 147 = .ok (.ireturn, 1) := by decide +kernel
theorem dX11_told_148 : decode cX11_told 148 = .ok (.aload_n 0, 1) := by decide +kernel
theorem dX11_told_149 : decode cX11_told 149 = .ok (.getfield 188, 3) := by decide +kernel
theorem dX11_told_152 : decode cX11_told 152 = .ok (.ireturn, 1) := by decide +kernel
theorem dX11_told_153 : decode cX11_told 153 = .ok (.ldc 111, 2) := by decide +kernel
theorem dX11_told_155 : decode cX11_told 155 = .ok (.ireturn, 1) := by decide +kernel
theorem dX11_fob_0 : decode cX11_fob 0 = .ok (.aload_n 0, 1) := by decide +kernel
theorem dX11_fob_1 : decode cX11_fob 1 = .ok (.iload_n 1, 1) := by decide +kernel
theorem dX11_fob_2 : decode cX11_fob 2 = .ok (.invokevirtual 233, 3) := by decide +kernel
theorem dX11_fob_5 : decode cX11_fob 5 = .ok (.ifCond .ne 6, 3) := by decide +kernel
theorem dX11_fob_8 : decode cX11_fob 8 = .ok (.ldc 237, 2) := by decide +kernel
theorem dX11_fob_10 : decode cX11_fob 10 = .ok (.ireturn, 1) := by decide +kernel
theorem dX11_fob_11 : decode cX11_fob 11 = .ok (.iload_n 2, 1) := by decide +kernel
theorem dX11_fob_12 : decode cX11_fob 12 = .ok (.tableswitch 97 0 6 #[44, 51, 58, 65, 72, 81, 91], 44) := by decide +kernel
theorem dX11_fob_56 : decode cX11_fob 56 = .ok (.aload_n 0, 1) := by decide +kernel
theorem dX11_fob_57 : decode cX11_fob 57 = .ok (.getfield 19, 3) := by decide +kernel
theorem dX11_fob_60 : decode cX11_fob 60 = .ok (.iload_n 1, 1) := by decide +kernel
theorem dX11_fob_61 : decode cX11_fob 61 = .ok (.iaload, 1) := by decide +kernel
theorem dX11_fob_62 : decode cX11_fob 62 = .ok (.ireturn, 1) := by decide +kernel
theorem dX11_fob_63 : decode cX11_fob 63 = .ok (.aload_n 0, 1) := by decide +kernel
theorem dX11_fob_64 : decode cX11_fob 64 = .ok (.getfield 34, 3) := by decide +kernel
theorem dX11_fob_67 : decode cX11_fob 67 = .ok (.iload_n 1, 1) := by decide +kernel
theorem dX11_fob_68 : decode cX11_fob 68 = .ok (.iaload, 1) := by decide +kernel
theorem dX11_fob_69 : decode cX11_fob 69 = .ok (.ireturn, 1) := by decide +kernel
theorem dX11_fob_70 : decode cX11_fob 70 = .ok (.aload_n 0, 1) := by decide +kernel
theorem dX11_fob_71 : decode cX11_fob 71 = .ok (.getfield 25, 3) := by decide +kernel
theorem dX11_fob_74 : decode cX11_fob 74 = .ok (.iload_n 1, 1) := by decide +kernel
theorem dX11_fob_75 : decode cX11_fob 75 = .ok (.iaload, 1) := by decide +kernel
theorem dX11_fob_76 : decode cX11_fob 76 = .ok (.ireturn, 1) := by decide +kernel
theorem dX11_fob_77 : decode cX11_fob 77 = .ok (.aload_n 0, 1) := by decide +kernel
theorem dX11_fob_78 : decode cX11_fob 78 = .ok (.getfield 28, 3) := by decide +kernel
theorem dX11_fob_81 : decode cX11_fob 81 = .ok (.iload_n 1, 1) := by decide +kernel
theorem dX11_fob_82 : decode cX11_fob 82 = .ok (.iaload, 1) := by decide +kernel
theorem dX11_fob_83 : decode cX11_fob 83 = .ok (.ireturn, 1) := by decide +kernel
theorem dX11_fob_84 : decode cX11_fob 84 = .ok (.aload_n 0, 1) := by decide +kernel
theorem dX11_fob_85 : decode cX11_fob 85 = .ok (.getfield 34, 3) := by decide +kernel
theorem dX11_fob_88 : decode cX11_fob 88 = .ok (.iconst 5, 1) := by decide +kernel
theorem dX11_fob_89 : decode cX11_fob 89 = .ok (.iload_n 1, 1) := by decide +kernel
theorem dX11_fob_90 : decode cX11_fob 90 = .ok (.iadd, 1) := by decide +kernel
theorem dX11_fob_91 : decode cX11_fob 91 = .ok (.iaload, 1) := by decide +kernel
theorem dX11_fob_92 : decode cX11_fob 92 = .ok (.ireturn, 1) := by decide +kernel
theorem dX11_fob_93 : decode cX11_fob 93 = .ok (.aload_n 0, 1) := by decide +kernel
theorem dX11_fob_94 : decode cX11_fob 94 = .ok (.getfield 34, 3) := by decide +kernel
theorem dX11_fob_97 : decode cX11_fob 97 = .ok (.bipush 10, 2) := by decide +kernel
theorem dX11_fob_99 : decode cX11_fob 99 = .ok (.iload_n 1, 1) := by decide +kernel
theorem dX11_fob_100 : decode cX11_fob 100 = .ok (.iadd, 1) := by decide +kernel
theorem dX11_fob_101 : decode cX11_fob 101 = .ok (.iaload, 1) := by decide +kernel
theorem dX11_fob_102 : decode cX11_fob 102 = .ok (.ireturn, 1) := by decide +kernel
theorem dX11_fob_103 : decode cX11_fob 103 = .ok (.aload_n 0, 1) := by decide +kernel
theorem dX11_fob_104 : decode cX11_fob 104 = .ok (.iload_n 1, 1) := by decide +kernel
theorem dX11_fob_105 : decode cX11_fob 105 = .ok (.invokevirtual 238, 3) := by decide +kernel
theorem dX11_fob_108 : decode cX11_fob 108 = .ok (.ireturn, 1) := by decide +kernel
theorem dX11_fob_109 : decode cX11_fob 109 = .ok (.ldc 111, 2) := by decide +kernel
theorem dX11_fob_111 : decode cX11_fob 111 = .ok (.ireturn, 1) := by decide +kernel
theorem dX11_gate_0 : decode cX11_gate 0 = .ok (.aload_n 0, 1) := by decide +kernel
theorem dX11_gate_1 : decode cX11_gate 1 = .ok (.iload_n 1, 1) := by decide +kernel
theorem dX11_gate_2 : decode cX11_gate 2 = .ok (.invokevirtual 242, 3) := by decide +kernel
theorem dX11_gate_5 : decode cX11_gate 5 = .ok (.ifCond .ne 6, 3) := by decide +kernel
theorem dX11_gate_8 : decode cX11_gate 8 = .ok (.ldc 237, 2) := by decide +kernel
theorem dX11_gate_10 : decode cX11_gate 10 = .ok (.ireturn, 1) := by decide +kernel
theorem dX11_gate_11 : decode cX11_gate 11 = .ok (.iload_n 2, 1) := by decide +kernel
theorem dX11_gate_12 : decode cX11_gate 12 = .ok (.tableswitch 101 0 6 #[44, 51, 58, 65, 75, 85, 95], 44) := by decide +kernel
theorem dX11_gate_56 : decode cX11_gate 56 = .ok (.aload_n 0, 1) := by decide +kernel
theorem dX11_gate_57 : decode cX11_gate 57 = .ok (.getfield 7, 3) := by decide +kernel
theorem dX11_gate_60 : decode cX11_gate 60 = .ok (.iload_n 1, 1) := by decide +kernel
theorem dX11_gate_61 : decode cX11_gate 61 = .ok (.iaload, 1) := by decide +kernel
theorem dX11_gate_62 : decode cX11_gate 62 = .ok (.ireturn, 1) := by decide +kernel
theorem dX11_gate_63 : decode cX11_gate 63 = .ok (.aload_n 0, 1) := by decide +kernel
theorem dX11_gate_64 : decode cX11_gate 64 = .ok (.getfield 13, 3) := by decide +kernel
theorem dX11_gate_67 : decode cX11_gate 67 = .ok (.iload_n 1, 1) := by decide +kernel
theorem dX11_gate_68 : decode cX11_gate 68 = .ok (.iaload, 1) := by decide +kernel
theorem dX11_gate_69 : decode cX11_gate 69 = .ok (.ireturn, 1) := by decide +kernel
theorem dX11_gate_70 : decode cX11_gate 70 = .ok (.aload_n 0, 1) := by decide +kernel
theorem dX11_gate_71 : decode cX11_gate 71 = .ok (.getfield 16, 3) := by decide +kernel
theorem dX11_gate_74 : decode cX11_gate 74 = .ok (.iload_n 1, 1) := by decide +kernel
theorem dX11_gate_75 : decode cX11_gate 75 = .ok (.iaload, 1) := by decide +kernel
theorem dX11_gate_76 : decode cX11_gate 76 = .ok (.ireturn, 1) := by decide +kernel
theorem dX11_gate_77 : decode cX11_gate 77 = .ok (.aload_n 0, 1) := by decide +kernel
theorem dX11_gate_78 : decode cX11_gate 78 = .ok (.getfield 34, 3) := by decide +kernel
theorem dX11_gate_81 : decode cX11_gate 81 = .ok (.bipush 26, 2) := by decide +kernel
theorem dX11_gate_83 : decode cX11_gate 83 = .ok (.iload_n 1, 1) := by decide +kernel
theorem dX11_gate_84 : decode cX11_gate 84 = .ok (.iadd, 1) := by decide +kernel
theorem dX11_gate_85 : decode cX11_gate 85 = .ok (.iaload, 1) := by decide +kernel
theorem dX11_gate_86 : decode cX11_gate 86 = .ok (.ireturn, 1) := by decide +kernel
theorem dX11_gate_87 : decode cX11_gate 87 = .ok (.aload_n 0, 1) := by decide +kernel
theorem dX11_gate_88 : decode cX11_gate 88 = .ok (.getfield 34, 3) := by decide +kernel
theorem dX11_gate_91 : decode cX11_gate 91 = .ok (.bipush 30, 2) := by decide +kernel
theorem dX11_gate_93 : decode cX11_gate 93 = .ok (.iload_n 1, 1) := by decide +kernel
theorem dX11_gate_94 : decode cX11_gate 94 = .ok (.iadd, 1) := by decide +kernel
theorem dX11_gate_95 : decode cX11_gate 95 = .ok (.iaload, 1) := by decide +kernel
theorem dX11_gate_96 : decode cX11_gate 96 = .ok (.ireturn, 1) := by decide +kernel
theorem dX11_gate_97 : decode cX11_gate 97 = .ok (.aload_n 0, 1) := by decide +kernel
theorem dX11_gate_98 : decode cX11_gate 98 = .ok (.getfield 34, 3) := by decide +kernel
theorem dX11_gate_101 : decode cX11_gate 101 = .ok (.bipush 34, 2) := by decide +kernel
theorem dX11_gate_103 : decode cX11_gate 103 = .ok (.iload_n 1, 1) := by decide +kernel
theorem dX11_gate_104 : decode cX11_gate 104 = .ok (.iadd, 1) := by decide +kernel
theorem dX11_gate_105 : decode cX11_gate 105 = .ok (.iaload, 1) := by decide +kernel
theorem dX11_gate_106 : decode cX11_gate 106 = .ok (.ireturn, 1) := by decide +kernel
theorem dX11_gate_107 : decode cX11_gate 107 = .ok (.aload_n 0, 1) := by decide +kernel
theorem dX11_gate_108 : decode cX11_gate 108 = .ok (.iload_n 1, 1) := by decide +kernel
theorem dX11_gate_109 : decode cX11_gate 109 = .ok (.invokevirtual 245, 3) := by decide +kernel
theorem dX11_gate_112 : decode cX11_gate 112 = .ok (.ireturn, 1) := by decide +kernel
theorem dX11_gate_113 : decode cX11_gate 113 = .ok (.ldc 111, 2) := by decide +kernel
theorem dX11_gate_115 : decode cX11_gate 115 = .ok (.ireturn, 1) := by decide +kernel
theorem dX11_last_0 : decode cX11_last 0 = .ok (.aload_n 0, 1) := by decide +kernel
theorem dX11_last_1 : decode cX11_last 1 = .ok (.iload_n 1, 1) := by decide +kernel
theorem dX11_last_2 : decode cX11_last 2 = .ok (.invokevirtual 242, 3) := by decide +kernel
theorem dX11_last_5 : decode cX11_last 5 = .ok (.ifCond .eq 27, 3) := by decide +kernel
theorem dX11_last_8 : decode cX11_last 8 = .ok (.aload_n 0, 1) := by decide +kernel
theorem dX11_last_9 : decode cX11_last 9 = .ok (.iload_n 2, 1) := by decide +kernel
theorem dX11_last_10 : decode cX11_last 10 = .ok (.invokevirtual 233, 3) := by decide +kernel
theorem dX11_last_13 : decode cX11_last 13 = .ok (.ifCond .eq 19, 3) := by decide +kernel
theorem dX11_last_16 : decode cX11_last 16 = .ok (.aload_n 0, 1) := by decide +kernel
theorem dX11_last_17 : decode cX11_last 17 = .ok (.getfield 34, 3) := by decide +kernel
theorem dX11_last_20 : decode cX11_last 20 = .ok (.bipush 38, 2) := by decide +kernel
theorem dX11_last_22 : decode cX11_last 22 = .ok (.iconst 5, 1) := by decide +kernel
theorem dX11_last_23 : decode cX11_last 23 = .ok (.iload_n 1, 1) := by decide +kernel
theorem dX11_last_24 : decode cX11_last 24 = .ok (.imul, 1) := by decide +kernel
theorem dX11_last_25 : decode cX11_last 25 = .ok (.iadd, 1) := by decide +kernel
theorem dX11_last_26 : decode cX11_last 26 = .ok (.iload_n 2, 1) := by decide +kernel
theorem dX11_last_27 : decode cX11_last 27 = .ok (.iadd, 1) := by decide +kernel
theorem dX11_last_28 : decode cX11_last 28 = .ok (.iaload, 1) := by decide +kernel
theorem dX11_last_29 : decode cX11_last 29 = .ok (.goto 5, 3) := by decide +kernel
theorem dX11_last_32 : decode cX11_last 32 = .ok (.ldc 237, 2) := by decide +kernel
theorem dX11_last_34 : decode cX11_last 34 = .ok (.ireturn, 1) := by decide +kernel
theorem dX11_kept_0 : decode cX11_kept 0 = .ok (.iload_n 1, 1) := by decide +kernel
theorem dX11_kept_1 : decode cX11_kept 1 = .ok (.i2l, 1) := by decide +kernel
theorem dX11_kept_2 : decode cX11_kept 2 = .ok (.lconst 0, 1) := by decide +kernel
theorem dX11_kept_3 : decode cX11_kept 3 = .ok (.aload_n 0, 1) := by decide +kernel
theorem dX11_kept_4 : decode cX11_kept 4 = .ok (.getfield 34, 3) := by decide +kernel
theorem dX11_kept_7 : decode cX11_kept 7 = .ok (.bipush 16, 2) := by decide +kernel
theorem dX11_kept_9 : decode cX11_kept 9 = .ok (.iaload, 1) := by decide +kernel
theorem dX11_kept_10 : decode cX11_kept 10 = .ok (.iconst 1, 1) := by decide +kernel
theorem dX11_kept_11 : decode cX11_kept 11 = .ok (.isub, 1) := by decide +kernel
theorem dX11_kept_12 : decode cX11_kept 12 = .ok (.i2l, 1) := by decide +kernel
theorem dX11_kept_13 : decode cX11_kept 13 = .ok (.invokestatic 105, 3) := by decide +kernel
theorem dX11_kept_16 : decode cX11_kept 16 = .ok (.ifCond .eq 15, 3) := by decide +kernel
theorem dX11_kept_19 : decode cX11_kept 19 = .ok (.aload_n 0, 1) := by decide +kernel
theorem dX11_kept_20 : decode cX11_kept 20 = .ok (.getfield 34, 3) := by decide +kernel
theorem dX11_kept_23 : decode cX11_kept 23 = .ok (.bipush 17, 2) := by decide +kernel
theorem dX11_kept_25 : decode cX11_kept 25 = .ok (.iload_n 1, 1) := by decide +kernel
theorem dX11_kept_26 : decode cX11_kept 26 = .ok (.iadd, 1) := by decide +kernel
theorem dX11_kept_27 : decode cX11_kept 27 = .ok (.iaload, 1) := by decide +kernel
theorem dX11_kept_28 : decode cX11_kept 28 = .ok (.goto 4, 3) := by decide +kernel
theorem dX11_kept_31 : decode cX11_kept 31 = .ok (.iconst (-1), 1) := by decide +kernel
theorem dX11_kept_32 : decode cX11_kept 32 = .ok (.ireturn, 1) := by decide +kernel
theorem dX11_remember_0 : decode cX11_remember 0 = .ok (.aload_n 0, 1) := by decide +kernel
theorem dX11_remember_1 : decode cX11_remember 1 = .ok (.getfield 188, 3) := by decide +kernel
theorem dX11_remember_4 : decode cX11_remember 4 = .ok (.bipush 16, 2) := by decide +kernel
theorem dX11_remember_6 : decode cX11_remember 6 = .ok (.if_icmp .ne 44, 3) := by decide +kernel
theorem dX11_remember_9 : decode cX11_remember 9 = .ok (.bipush 59, 2) := by decide +kernel
theorem dX11_remember_11 : decode cX11_remember 11 = .ok (.istore_n 1, 1) := by decide +kernel
theorem dX11_remember_12 : decode cX11_remember 12 = .ok (.iload_n 1, 1) := by decide +kernel
theorem dX11_remember_13 : decode cX11_remember 13 = .ok (.sipush 944, 3) := by decide +kernel
theorem dX11_remember_16 : decode cX11_remember 16 = .ok (.if_icmp .ge 24, 3) := by decide +kernel
theorem dX11_remember_19 : decode cX11_remember 19 = .ok (.aload_n 0, 1) := by decide +kernel
theorem dX11_remember_20 : decode cX11_remember 20 = .ok (.getfield 71, 3) := by decide +kernel
theorem dX11_remember_23 : decode cX11_remember 23 = .ok (.iload_n 1, 1) := by decide +kernel
theorem dX11_remember_24 : decode cX11_remember 24 = .ok (.bipush 59, 2) := by decide +kernel
theorem dX11_remember_26 : decode cX11_remember 26 = .ok (.isub, 1) := by decide +kernel
theorem dX11_remember_27 : decode cX11_remember 27 = .ok (.aload_n 0, 1) := by decide +kernel
theorem dX11_remember_28 : decode cX11_remember 28 = .ok (.getfield 71, 3) := by decide +kernel
theorem dX11_remember_31 : decode cX11_remember 31 = .ok (.iload_n 1, 1) := by decide +kernel
theorem dX11_remember_32 : decode cX11_remember 32 = .ok (.iaload, 1) := by decide +kernel
theorem dX11_remember_33 : decode cX11_remember 33 = .ok (.iastore, 1) := by decide +kernel
theorem dX11_remember_34 : decode cX11_remember 34 = .ok (.iinc 1 1, 3) := by decide +kernel
theorem dX11_remember_37 : decode cX11_remember 37 = .ok (.goto (-25), 3) := by decide +kernel
theorem dX11_remember_40 : decode cX11_remember 40 = .ok (.aload_n 0, 1) := by decide +kernel
theorem dX11_remember_41 : decode cX11_remember 41 = .ok (.dup, 1) := by decide +kernel
theorem dX11_remember_42 : decode cX11_remember 42 = .ok (.getfield 188, 3) := by decide +kernel
theorem dX11_remember_45 : decode cX11_remember 45 = .ok (.iconst 1, 1) := by decide +kernel
theorem dX11_remember_46 : decode cX11_remember 46 = .ok (.isub, 1) := by decide +kernel
theorem dX11_remember_47 : decode cX11_remember 47 = .ok (.putfield 188, 3) := by decide +kernel
theorem dX11_remember_50 : decode cX11_remember 50 = .ok (.iconst 0, 1) := by decide +kernel
theorem dX11_remember_51 : decode cX11_remember 51 = .ok (.istore_n 1, 1) := by decide +kernel
theorem dX11_remember_52 : decode cX11_remember 52 = .ok (.iload_n 1, 1) := by decide +kernel
theorem dX11_remember_53 : decode cX11_remember 53 = .ok (.bipush 59, 2) := by decide +kernel
theorem dX11_remember_55 : decode cX11_remember 55 = .ok (.if_icmp .ge 29, 3) := by decide +kernel
theorem dX11_remember_58 : decode cX11_remember 58 = .ok (.aload_n 0, 1) := by decide +kernel
theorem dX11_remember_59 : decode cX11_remember 59 = .ok (.getfield 71, 3) := by decide +kernel
theorem dX11_remember_62 : decode cX11_remember 62 = .ok (.bipush 59, 2) := by decide +kernel
theorem dX11_remember_64 : decode cX11_remember 64 = .ok (.aload_n 0, 1) := by decide +kernel
theorem dX11_remember_65 : decode cX11_remember 65 = .ok (.getfield 188, 3) := by decide +kernel
theorem dX11_remember_68 : decode cX11_remember 68 = .ok (.imul, 1) := by decide +kernel
theorem dX11_remember_69 : decode cX11_remember 69 = .ok (.iload_n 1, 1) := by decide +kernel
theorem dX11_remember_70 : decode cX11_remember 70 = .ok (.iadd, 1) := by decide +kernel
theorem dX11_remember_71 : decode cX11_remember 71 = .ok (.aload_n 0, 1) := by decide +kernel
theorem dX11_remember_72 : decode cX11_remember 72 = .ok (.getfield 34, 3) := by decide +kernel
theorem dX11_remember_75 : decode cX11_remember 75 = .ok (.iload_n 1, 1) := by decide +kernel
theorem dX11_remember_76 : decode cX11_remember 76 = .ok (.iaload, 1) := by decide +kernel
theorem dX11_remember_77 : decode cX11_remember 77 = .ok (.iastore, 1) := by decide +kernel
theorem dX11_remember_78 : decode cX11_remember 78 = .ok (.iinc 1 1, 3) := by decide +kernel
theorem dX11_remember_81 : decode cX11_remember 81 = .ok (.goto (-29), 3) := by decide +kernel
theorem dX11_remember_84 : decode cX11_remember 84 = .ok (.aload_n 0, 1) := by decide +kernel
theorem dX11_remember_85 : decode cX11_remember 85 = .ok (.dup, 1) := by decide +kernel
theorem dX11_remember_86 : decode cX11_remember 86 = .ok (.getfield 188, 3) := by decide +kernel
theorem dX11_remember_89 : decode cX11_remember 89 = .ok (.iconst 1, 1) := by decide +kernel
theorem dX11_remember_90 : decode cX11_remember 90 = .ok (.iadd, 1) := by decide +kernel
theorem dX11_remember_91 : decode cX11_remember 91 = .ok (.putfield 188, 3) := by decide +kernel
theorem dX11_remember_94 : decode cX11_remember 94 = .ok (.return_, 1) := by decide +kernel
theorem dX11_press_0 : decode cX11_press 0 = .ok (.aload_n 0, 1) := by decide +kernel
theorem dX11_press_1 : decode cX11_press 1 = .ok (.iload_n 1, 1) := by decide +kernel
theorem dX11_press_2 : decode cX11_press 2 = .ok (.invokevirtual 233, 3) := by decide +kernel
theorem dX11_press_5 : decode cX11_press 5 = .ok (.ifCond .ne 6, 3) := by decide +kernel
theorem dX11_press_8 : decode cX11_press 8 = .ok (.ldc 237, 2) := by decide +kernel
theorem dX11_press_10 : decode cX11_press 10 = .ok (.ireturn, 1) := by decide +kernel
theorem dX11_press_11 : decode cX11_press 11 = .ok (.aload_n 0, 1) := by decide +kernel
theorem dX11_press_12 : decode cX11_press 12 = .ok (.getfield 34, 3) := by decide +kernel
theorem dX11_press_15 : decode cX11_press 15 = .ok (.bipush 10, 2) := by decide +kernel
theorem dX11_press_17 : decode cX11_press 17 = .ok (.iload_n 1, 1) := by decide +kernel
theorem dX11_press_18 : decode cX11_press 18 = .ok (.iadd, 1) := by decide +kernel
theorem dX11_press_19 : decode cX11_press 19 = .ok (.iaload, 1) := by decide +kernel
theorem dX11_press_20 : decode cX11_press 20 = .ok (.ifCond .ne 6, 3) := by decide +kernel
theorem dX11_press_23 : decode cX11_press 23 = .ok (.ldc 248, 2) := by decide +kernel
theorem dX11_press_25 : decode cX11_press 25 = .ok (.ireturn, 1) := by decide +kernel
theorem dX11_press_26 : decode cX11_press 26 = .ok (.aload_n 0, 1) := by decide +kernel
theorem dX11_press_27 : decode cX11_press 27 = .ok (.invokevirtual 249, 3) := by decide +kernel
theorem dX11_press_30 : decode cX11_press 30 = .ok (.aload_n 0, 1) := by decide +kernel
theorem dX11_press_31 : decode cX11_press 31 = .ok (.iload_n 1, 1) := by decide +kernel
theorem dX11_press_32 : decode cX11_press 32 = .ok (.invokevirtual 252, 3) := by decide +kernel
theorem dX11_press_35 : decode cX11_press 35 = .ok (.ireturn, 1) := by decide +kernel
theorem dX11_step_0 : decode cX11_step 0 = .ok (.aload_n 0, 1) := by decide +kernel
theorem dX11_step_1 : decode cX11_step 1 = .ok (.iload_n 1, 1) := by decide +kernel
theorem dX11_step_2 : decode cX11_step 2 = .ok (.invokevirtual 233, 3) := by decide +kernel
theorem dX11_step_5 : decode cX11_step 5 = .ok (.ifCond .ne 6, 3) := by decide +kernel
theorem dX11_step_8 : decode cX11_step 8 = .ok (.ldc 237, 2) := by decide +kernel
theorem dX11_step_10 : decode cX11_step 10 = .ok (.ireturn, 1) := by decide +kernel
theorem dX11_step_11 : decode cX11_step 11 = .ok (.iload_n 2, 1) := by decide +kernel
theorem dX11_step_12 : decode cX11_step 12 = .ok (.i2l, 1) := by decide +kernel
theorem dX11_step_13 : decode cX11_step 13 = .ok (.lconst 0, 1) := by decide +kernel
theorem dX11_step_14 : decode cX11_step 14 = .ok (.ldc2_w 255, 3) := by decide +kernel
theorem dX11_step_17 : decode cX11_step 17 = .ok (.invokestatic 105, 3) := by decide +kernel
theorem dX11_step_20 : decode cX11_step 20 = .ok (.ifCond .ne 6, 3) := by decide +kernel
theorem dX11_step_23 : decode cX11_step 23 = .ok (.ldc 111, 2) := by decide +kernel
theorem dX11_step_25 : decode cX11_step 25 = .ok (.ireturn, 1) := by decide +kernel
theorem dX11_step_26 : decode cX11_step 26 = .ok (.aload_n 0, 1) := by decide +kernel
theorem dX11_step_27 : decode cX11_step 27 = .ok (.getfield 34, 3) := by decide +kernel
theorem dX11_step_30 : decode cX11_step 30 = .ok (.iload_n 1, 1) := by decide +kernel
theorem dX11_step_31 : decode cX11_step 31 = .ok (.iaload, 1) := by decide +kernel
theorem dX11_step_32 : decode cX11_step 32 = .ok (.iload_n 2, 1) := by decide +kernel
theorem dX11_step_33 : decode cX11_step 33 = .ok (.if_icmp .ne 6, 3) := by decide +kernel
theorem dX11_step_36 : decode cX11_step 36 = .ok (.ldc 248, 2) := by decide +kernel
theorem dX11_step_38 : decode cX11_step 38 = .ok (.ireturn, 1) := by decide +kernel
theorem dX11_step_39 : decode cX11_step 39 = .ok (.aload_n 0, 1) := by decide +kernel
theorem dX11_step_40 : decode cX11_step 40 = .ok (.invokevirtual 249, 3) := by decide +kernel
theorem dX11_step_43 : decode cX11_step 43 = .ok (.aload_n 0, 1) := by decide +kernel
theorem dX11_step_44 : decode cX11_step 44 = .ok (.getfield 34, 3) := by decide +kernel
theorem dX11_step_47 : decode cX11_step 47 = .ok (.iload_n 1, 1) := by decide +kernel
theorem dX11_step_48 : decode cX11_step 48 = .ok (.iaload, 1) := by decide +kernel
theorem dX11_step_49 : decode cX11_step 49 = .ok (.istore_n 3, 1) := by decide +kernel
theorem dX11_step_50 : decode cX11_step 50 = .ok (.aload_n 0, 1) := by decide +kernel
theorem dX11_step_51 : decode cX11_step 51 = .ok (.getfield 34, 3) := by decide +kernel
theorem dX11_step_54 : decode cX11_step 54 = .ok (.iload_n 1, 1) := by decide +kernel
theorem dX11_step_55 : decode cX11_step 55 = .ok (.iload_n 2, 1) := by decide +kernel
theorem dX11_step_56 : decode cX11_step 56 = .ok (.iastore, 1) := by decide +kernel
theorem dX11_step_57 : decode cX11_step 57 = .ok (.iload_n 3, 1) := by decide +kernel
theorem dX11_step_58 : decode cX11_step 58 = .ok (.ireturn, 1) := by decide +kernel
theorem dX11_earTo_0 : decode cX11_earTo 0 = .ok (.iload_n 1, 1) := by decide +kernel
theorem dX11_earTo_1 : decode cX11_earTo 1 = .ok (.i2l, 1) := by decide +kernel
theorem dX11_earTo_2 : decode cX11_earTo 2 = .ok (.lconst 0, 1) := by decide +kernel
theorem dX11_earTo_3 : decode cX11_earTo 3 = .ok (.ldc2_w 255, 3) := by decide +kernel
theorem dX11_earTo_6 : decode cX11_earTo 6 = .ok (.invokestatic 105, 3) := by decide +kernel
theorem dX11_earTo_9 : decode cX11_earTo 9 = .ok (.ifCond .ne 6, 3) := by decide +kernel
theorem dX11_earTo_12 : decode cX11_earTo 12 = .ok (.ldc 111, 2) := by decide +kernel
theorem dX11_earTo_14 : decode cX11_earTo 14 = .ok (.ireturn, 1) := by decide +kernel
theorem dX11_earTo_15 : decode cX11_earTo 15 = .ok (.aload_n 0, 1) := by decide +kernel
theorem dX11_earTo_16 : decode cX11_earTo 16 = .ok (.getfield 163, 3) := by decide +kernel
theorem dX11_earTo_19 : decode cX11_earTo 19 = .ok (.ifCond .eq 14, 3) := by decide +kernel
theorem dX11_earTo_22 : decode cX11_earTo 22 = .ok (.aload_n 0, 1) := by decide +kernel
theorem dX11_earTo_23 : decode cX11_earTo 23 = .ok (.getfield 34, 3) := by decide +kernel
theorem dX11_earTo_26 : decode cX11_earTo 26 = .ok (.bipush 15, 2) := by decide +kernel
theorem dX11_earTo_28 : decode cX11_earTo 28 = .ok (.iaload, 1) := by decide +kernel
theorem dX11_earTo_29 : decode cX11_earTo 29 = .ok (.iload_n 1, 1) := by decide +kernel
theorem dX11_earTo_30 : decode cX11_earTo 30 = .ok (.if_icmp .ne 6, 3) := by decide +kernel
theorem dX11_earTo_33 : decode cX11_earTo 33 = .ok (.ldc 248, 2) := by decide +kernel
theorem dX11_earTo_35 : decode cX11_earTo 35 = .ok (.ireturn, 1) := by decide +kernel
theorem dX11_earTo_36 : decode cX11_earTo 36 = .ok (.aload_n 0, 1) := by decide +kernel
theorem dX11_earTo_37 : decode cX11_earTo 37 = .ok (.invokevirtual 249, 3) := by decide +kernel
theorem dX11_earTo_40 : decode cX11_earTo 40 = .ok (.aload_n 0, 1) := by decide +kernel
theorem dX11_earTo_41 : decode cX11_earTo 41 = .ok (.getfield 34, 3) := by decide +kernel
theorem dX11_earTo_44 : decode cX11_earTo 44 = .ok (.bipush 15, 2) := by decide +kernel
theorem dX11_earTo_46 : decode cX11_earTo 46 = .ok (.iaload, 1) := by decide +kernel
theorem dX11_earTo_47 : decode cX11_earTo 47 = .ok (.istore_n 2, 1) := by decide +kernel
theorem dX11_earTo_48 : decode cX11_earTo 48 = .ok (.aload_n 0, 1) := by decide +kernel
theorem dX11_earTo_49 : decode cX11_earTo 49 = .ok (.getfield 34, 3) := by decide +kernel
theorem dX11_earTo_52 : decode cX11_earTo 52 = .ok (.bipush 15, 2) := by decide +kernel
theorem dX11_earTo_54 : decode cX11_earTo 54 = .ok (.iload_n 1, 1) := by decide +kernel
theorem dX11_earTo_55 : decode cX11_earTo 55 = .ok (.iastore, 1) := by decide +kernel
theorem dX11_earTo_56 : decode cX11_earTo 56 = .ok (.iload_n 2, 1) := by decide +kernel
theorem dX11_earTo_57 : decode cX11_earTo 57 = .ok (.ireturn, 1) := by decide +kernel
theorem dX11_noise_0 : decode cX11_noise 0 = .ok (.aload_n 0, 1) := by decide +kernel
theorem dX11_noise_1 : decode cX11_noise 1 = .ok (.iload_n 1, 1) := by decide +kernel
theorem dX11_noise_2 : decode cX11_noise 2 = .ok (.invokevirtual 242, 3) := by decide +kernel
theorem dX11_noise_5 : decode cX11_noise 5 = .ok (.ifCond .ne 6, 3) := by decide +kernel
theorem dX11_noise_8 : decode cX11_noise 8 = .ok (.ldc 237, 2) := by decide +kernel
theorem dX11_noise_10 : decode cX11_noise 10 = .ok (.ireturn, 1) := by decide +kernel
theorem dX11_noise_11 : decode cX11_noise 11 = .ok (.aload_n 0, 1) := by decide +kernel
theorem dX11_noise_12 : decode cX11_noise 12 = .ok (.getfield 34, 3) := by decide +kernel
theorem dX11_noise_15 : decode cX11_noise 15 = .ok (.bipush 25, 2) := by decide +kernel
theorem dX11_noise_17 : decode cX11_noise 17 = .ok (.iaload, 1) := by decide +kernel
theorem dX11_noise_18 : decode cX11_noise 18 = .ok (.iload_n 1, 1) := by decide +kernel
theorem dX11_noise_19 : decode cX11_noise 19 = .ok (.invokestatic 208, 3) := by decide +kernel
theorem dX11_noise_22 : decode cX11_noise 22 = .ok (.iload_n 2, 1) := by decide +kernel
theorem dX11_noise_23 : decode cX11_noise 23 = .ok (.if_icmp .ne 6, 3) := by decide +kernel
theorem dX11_noise_26 : decode cX11_noise 26 = .ok (.ldc 248, 2) := by decide +kernel
theorem dX11_noise_28 : decode cX11_noise 28 = .ok (.ireturn, 1) := by decide +kernel
theorem dX11_noise_29 : decode cX11_noise 29 = .ok (.aload_n 0, 1) := by decide +kernel
theorem dX11_noise_30 : decode cX11_noise 30 = .ok (.invokevirtual 249, 3) := by decide +kernel
theorem dX11_noise_33 : decode cX11_noise 33 = .ok (.aload_n 0, 1) := by decide +kernel
theorem dX11_noise_34 : decode cX11_noise 34 = .ok (.getfield 34, 3) := by decide +kernel
theorem dX11_noise_37 : decode cX11_noise 37 = .ok (.bipush 25, 2) := by decide +kernel
theorem dX11_noise_39 : decode cX11_noise 39 = .ok (.dup2, 1) := by decide +kernel
theorem dX11_noise_40 : decode cX11_noise 40 = .ok (.iaload, 1) := by decide +kernel
theorem dX11_noise_41 : decode cX11_noise 41 = .ok (.iconst 1, 1) := by decide +kernel
theorem dX11_noise_42 : decode cX11_noise 42 = .ok (.iload_n 1, 1) := by decide +kernel
theorem dX11_noise_43 : decode cX11_noise 43 = .ok (.ishl, 1) := by decide +kernel
theorem dX11_noise_44 : decode cX11_noise 44 = .ok (.ixor, 1) := by decide +kernel
theorem dX11_noise_45 : decode cX11_noise 45 = .ok (.iastore, 1) := by decide +kernel
theorem dX11_noise_46 : decode cX11_noise 46 = .ok (.aload_n 0, 1) := by decide +kernel
theorem dX11_noise_47 : decode cX11_noise 47 = .ok (.getfield 34, 3) := by decide +kernel
theorem dX11_noise_50 : decode cX11_noise 50 = .ok (.bipush 25, 2) := by decide +kernel
theorem dX11_noise_52 : decode cX11_noise 52 = .ok (.iaload, 1) := by decide +kernel
theorem dX11_noise_53 : decode cX11_noise 53 = .ok (.ireturn, 1) := by decide +kernel
theorem dX11_teach_0 : decode cX11_teach 0 = .ok (.aload_n 0, 1) := by decide +kernel
theorem dX11_teach_1 : decode cX11_teach 1 = .ok (.iload_n 1, 1) := by decide +kernel
theorem dX11_teach_2 : decode cX11_teach 2 = .ok (.invokevirtual 242, 3) := by decide +kernel
theorem dX11_teach_5 : decode cX11_teach 5 = .ok (.ifCond .eq 11, 3) := by decide +kernel
theorem dX11_teach_8 : decode cX11_teach 8 = .ok (.aload_n 0, 1) := by decide +kernel
theorem dX11_teach_9 : decode cX11_teach 9 = .ok (.iload_n 2, 1) := by decide +kernel
theorem dX11_teach_10 : decode cX11_teach 10 = .ok (.invokevirtual 233, 3) := by decide +kernel
theorem dX11_teach_13 : decode cX11_teach 13 = .ok (.ifCond .ne 6, 3) := by decide +kernel
theorem dX11_teach_16 : decode cX11_teach 16 = .ok (.ldc 237, 2) := by decide +kernel
theorem dX11_teach_18 : decode cX11_teach 18 = .ok (.ireturn, 1) := by decide +kernel
theorem dX11_teach_19 : decode cX11_teach 19 = .ok (.aload_n 0, 1) := by decide +kernel
theorem dX11_teach_20 : decode cX11_teach 20 = .ok (.invokevirtual 249, 3) := by decide +kernel
theorem dX11_teach_23 : decode cX11_teach 23 = .ok (.aload_n 0, 1) := by decide +kernel
theorem dX11_teach_24 : decode cX11_teach 24 = .ok (.getfield 34, 3) := by decide +kernel
theorem dX11_teach_27 : decode cX11_teach 27 = .ok (.bipush 38, 2) := by decide +kernel
theorem dX11_teach_29 : decode cX11_teach 29 = .ok (.iconst 5, 1) := by decide +kernel
theorem dX11_teach_30 : decode cX11_teach 30 = .ok (.iload_n 1, 1) := by decide +kernel
theorem dX11_teach_31 : decode cX11_teach 31 = .ok (.imul, 1) := by decide +kernel
theorem dX11_teach_32 : decode cX11_teach 32 = .ok (.iadd, 1) := by decide +kernel
theorem dX11_teach_33 : decode cX11_teach 33 = .ok (.iload_n 2, 1) := by decide +kernel
theorem dX11_teach_34 : decode cX11_teach 34 = .ok (.iadd, 1) := by decide +kernel
theorem dX11_teach_35 : decode cX11_teach 35 = .ok (.aload_n 0, 1) := by decide +kernel
theorem dX11_teach_36 : decode cX11_teach 36 = .ok (.getfield 34, 3) := by decide +kernel
theorem dX11_teach_39 : decode cX11_teach 39 = .ok (.iconst 5, 1) := by decide +kernel
theorem dX11_teach_40 : decode cX11_teach 40 = .ok (.iload_n 2, 1) := by decide +kernel
theorem dX11_teach_41 : decode cX11_teach 41 = .ok (.iadd, 1) := by decide +kernel
theorem dX11_teach_42 : decode cX11_teach 42 = .ok (.iaload, 1) := by decide +kernel
theorem dX11_teach_43 : decode cX11_teach 43 = .ok (.iastore, 1) := by decide +kernel
theorem dX11_teach_44 : decode cX11_teach 44 = .ok (.aload_n 0, 1) := by decide +kernel
theorem dX11_teach_45 : decode cX11_teach 45 = .ok (.getfield 34, 3) := by decide +kernel
theorem dX11_teach_48 : decode cX11_teach 48 = .ok (.iconst 5, 1) := by decide +kernel
theorem dX11_teach_49 : decode cX11_teach 49 = .ok (.iload_n 2, 1) := by decide +kernel
theorem dX11_teach_50 : decode cX11_teach 50 = .ok (.iadd, 1) := by decide +kernel
theorem dX11_teach_51 : decode cX11_teach 51 = .ok (.iaload, 1) := by decide +kernel
theorem dX11_teach_52 : decode cX11_teach 52 = .ok (.ireturn, 1) := by decide +kernel
theorem dX11_again_0 : decode cX11_again 0 = .ok (.iload_n 1, 1) := by decide +kernel
theorem dX11_again_1 : decode cX11_again 1 = .ok (.i2l, 1) := by decide +kernel
theorem dX11_again_2 : decode cX11_again 2 = .ok (.lconst 0, 1) := by decide +kernel
theorem dX11_again_3 : decode cX11_again 3 = .ok (.aload_n 0, 1) := by decide +kernel
theorem dX11_again_4 : decode cX11_again 4 = .ok (.getfield 34, 3) := by decide +kernel
theorem dX11_again_7 : decode cX11_again 7 = .ok (.bipush 16, 2) := by decide +kernel
theorem dX11_again_9 : decode cX11_again 9 = .ok (.iaload, 1) := by decide +kernel
theorem dX11_again_10 : decode cX11_again 10 = .ok (.iconst 1, 1) := by decide +kernel
theorem dX11_again_11 : decode cX11_again 11 = .ok (.isub, 1) := by decide +kernel
theorem dX11_again_12 : decode cX11_again 12 = .ok (.i2l, 1) := by decide +kernel
theorem dX11_again_13 : decode cX11_again 13 = .ok (.invokestatic 105, 3) := by decide +kernel
theorem dX11_again_16 : decode cX11_again 16 = .ok (.ifCond .ne 6, 3) := by decide +kernel
theorem dX11_again_19 : decode cX11_again 19 = .ok (.ldc 237, 2) := by decide +kernel
theorem dX11_again_21 : decode cX11_again 21 = .ok (.ireturn, 1) := by decide +kernel
theorem dX11_again_22 : decode cX11_again 22 = .ok (.aload_n 0, 1) := by decide +kernel
theorem dX11_again_23 : decode cX11_again 23 = .ok (.invokevirtual 249, 3) := by decide +kernel
theorem dX11_again_26 : decode cX11_again 26 = .ok (.aload_n 0, 1) := by decide +kernel
theorem dX11_again_27 : decode cX11_again 27 = .ok (.aload_n 0, 1) := by decide +kernel
theorem dX11_again_28 : decode cX11_again 28 = .ok (.getfield 34, 3) := by decide +kernel
theorem dX11_again_31 : decode cX11_again 31 = .ok (.bipush 15, 2) := by decide +kernel
theorem dX11_again_33 : decode cX11_again 33 = .ok (.iaload, 1) := by decide +kernel
theorem dX11_again_34 : decode cX11_again 34 = .ok (.aload_n 0, 1) := by decide +kernel
theorem dX11_again_35 : decode cX11_again 35 = .ok (.getfield 166, 3) := by decide +kernel
theorem dX11_again_38 : decode cX11_again 38 = .ok (.aload_n 0, 1) := by decide +kernel
theorem dX11_again_39 : decode cX11_again 39 = .ok (.getfield 34, 3) := by decide +kernel
theorem dX11_again_42 : decode cX11_again 42 = .ok (.bipush 17, 2) := by decide +kernel
theorem dX11_again_44 : decode cX11_again 44 = .ok (.iload_n 1, 1) := by decide +kernel
theorem dX11_again_45 : decode cX11_again 45 = .ok (.iadd, 1) := by decide +kernel
theorem dX11_again_46 : decode cX11_again 46 = .ok (.iaload, 1) := by decide +kernel
theorem dX11_again_47 : decode cX11_again 47 = .ok (.invokevirtual 217, 3) := by decide +kernel
theorem dX11_again_50 : decode cX11_again 50 = .ok (.ireturn, 1) := by decide +kernel
theorem dX11_fill_0 : decode cX11_fill 0 = .ok (.aload_n 0, 1) := by decide +kernel
theorem dX11_fill_1 : decode cX11_fill 1 = .ok (.iload_n 1, 1) := by decide +kernel
theorem dX11_fill_2 : decode cX11_fill 2 = .ok (.invokevirtual 233, 3) := by decide +kernel
theorem dX11_fill_5 : decode cX11_fill 5 = .ok (.ifCond .ne 6, 3) := by decide +kernel
theorem dX11_fill_8 : decode cX11_fill 8 = .ok (.ldc 237, 2) := by decide +kernel
theorem dX11_fill_10 : decode cX11_fill 10 = .ok (.ireturn, 1) := by decide +kernel
theorem dX11_fill_11 : decode cX11_fill 11 = .ok (.aload_n 0, 1) := by decide +kernel
theorem dX11_fill_12 : decode cX11_fill 12 = .ok (.invokevirtual 249, 3) := by decide +kernel
theorem dX11_fill_15 : decode cX11_fill 15 = .ok (.aload_n 0, 1) := by decide +kernel
theorem dX11_fill_16 : decode cX11_fill 16 = .ok (.getfield 34, 3) := by decide +kernel
theorem dX11_fill_19 : decode cX11_fill 19 = .ok (.bipush 10, 2) := by decide +kernel
theorem dX11_fill_21 : decode cX11_fill 21 = .ok (.iload_n 1, 1) := by decide +kernel
theorem dX11_fill_22 : decode cX11_fill 22 = .ok (.iadd, 1) := by decide +kernel
theorem dX11_fill_23 : decode cX11_fill 23 = .ok (.iaload, 1) := by decide +kernel
theorem dX11_fill_24 : decode cX11_fill 24 = .ok (.istore_n 2, 1) := by decide +kernel
theorem dX11_fill_25 : decode cX11_fill 25 = .ok (.aload_n 0, 1) := by decide +kernel
theorem dX11_fill_26 : decode cX11_fill 26 = .ok (.getfield 34, 3) := by decide +kernel
theorem dX11_fill_29 : decode cX11_fill 29 = .ok (.bipush 10, 2) := by decide +kernel
theorem dX11_fill_31 : decode cX11_fill 31 = .ok (.iload_n 1, 1) := by decide +kernel
theorem dX11_fill_32 : decode cX11_fill 32 = .ok (.iadd, 1) := by decide +kernel
theorem dX11_fill_33 : decode cX11_fill 33 = .ok (.bipush 60, 2) := by decide +kernel
theorem dX11_fill_35 : decode cX11_fill 35 = .ok (.iastore, 1) := by decide +kernel
theorem dX11_fill_36 : decode cX11_fill 36 = .ok (.iload_n 2, 1) := by decide +kernel
theorem dX11_fill_37 : decode cX11_fill 37 = .ok (.ireturn, 1) := by decide +kernel
theorem dX11_draw_0 : decode cX11_draw 0 = .ok (.aload_n 0, 1) := by decide +kernel
theorem dX11_draw_1 : decode cX11_draw 1 = .ok (.aload_n 0, 1) := by decide +kernel
theorem dX11_draw_2 : decode cX11_draw 2 = .ok (.getfield 257, 3) := by decide +kernel
theorem dX11_draw_5 : decode cX11_draw 5 = .ok (.i2l, 1) := by decide +kernel
theorem dX11_draw_6 : decode cX11_draw 6 = .ok (.ldc2_w 260, 3) := by decide +kernel
theorem dX11_draw_9 : decode cX11_draw 9 = .ok (.lmul, 1) := by decide +kernel
theorem dX11_draw_10 : decode cX11_draw 10 = .ok (.ldc2_w 262, 3) := by decide +kernel
theorem dX11_draw_13 : decode cX11_draw 13 = .ok (.ladd, 1) := by decide +kernel
theorem dX11_draw_14 : decode cX11_draw 14 = .ok (.ldc2_w 264, 3) := by decide +kernel
theorem dX11_draw_17 : decode cX11_draw 17 = .ok (.lrem, 1) := by decide +kernel
theorem dX11_draw_18 : decode cX11_draw 18 = .ok (.l2i, 1) := by decide +kernel
theorem dX11_draw_19 : decode cX11_draw 19 = .ok (.putfield 257, 3) := by decide +kernel
theorem dX11_draw_22 : decode cX11_draw 22 = .ok (.aload_n 0, 1) := by decide +kernel
theorem dX11_draw_23 : decode cX11_draw 23 = .ok (.getfield 257, 3) := by decide +kernel
theorem dX11_draw_26 : decode cX11_draw 26 = .ok (.ldc_w 266, 3) := by decide +kernel
theorem dX11_draw_29 : decode cX11_draw 29 = .ok (.idiv, 1) := by decide +kernel
theorem dX11_draw_30 : decode cX11_draw 30 = .ok (.iload_n 1, 1) := by decide +kernel
theorem dX11_draw_31 : decode cX11_draw 31 = .ok (.irem, 1) := by decide +kernel
theorem dX11_draw_32 : decode cX11_draw 32 = .ok (.ireturn, 1) := by decide +kernel
theorem dX11_chance_0 : decode cX11_chance 0 = .ok (.aload_n 0, 1) := by decide +kernel
theorem dX11_chance_1 : decode cX11_chance 1 = .ok (.iconst 5, 1) := by decide +kernel
theorem dX11_chance_2 : decode cX11_chance 2 = .ok (.invokevirtual 267, 3) := by decide +kernel
theorem dX11_chance_5 : decode cX11_chance 5 = .ok (.istore_n 1, 1) := by decide +kernel
theorem dX11_chance_6 : decode cX11_chance 6 = .ok (.aload_n 0, 1) := by decide +kernel
theorem dX11_chance_7 : decode cX11_chance 7 = .ok (.aload_n 0, 1) := by decide +kernel
theorem dX11_chance_8 : decode cX11_chance 8 = .ok (.getfield 102, 3) := by decide +kernel
theorem dX11_chance_11 : decode cX11_chance 11 = .ok (.invokevirtual 267, 3) := by decide +kernel
theorem dX11_chance_14 : decode cX11_chance 14 = .ok (.istore_n 2, 1) := by decide +kernel
theorem dX11_chance_15 : decode cX11_chance 15 = .ok (.iload_n 1, 1) := by decide +kernel
theorem dX11_chance_16 : decode cX11_chance 16 = .ok (.iconst 2, 1) := by decide +kernel
theorem dX11_chance_17 : decode cX11_chance 17 = .ok (.if_icmp .ge 24, 3) := by decide +kernel
theorem dX11_chance_20 : decode cX11_chance 20 = .ok (.aload_n 0, 1) := by decide +kernel
theorem dX11_chance_21 : decode cX11_chance 21 = .ok (.getfield 34, 3) := by decide +kernel
theorem dX11_chance_24 : decode cX11_chance 24 = .ok (.bipush 10, 2) := by decide +kernel
theorem dX11_chance_26 : decode cX11_chance 26 = .ok (.iload_n 2, 1) := by decide +kernel
theorem dX11_chance_27 : decode cX11_chance 27 = .ok (.iadd, 1) := by decide +kernel
theorem dX11_chance_28 : decode cX11_chance 28 = .ok (.iaload, 1) := by decide +kernel
theorem dX11_chance_29 : decode cX11_chance 29 = .ok (.ifCond .le 12, 3) := by decide +kernel
theorem dX11_chance_32 : decode cX11_chance 32 = .ok (.aload_n 0, 1) := by decide +kernel
theorem dX11_chance_33 : decode cX11_chance 33 = .ok (.iload_n 2, 1) := by decide +kernel
theorem dX11_chance_34 : decode cX11_chance 34 = .ok (.invokevirtual 252, 3) := by decide +kernel
theorem dX11_chance_37 : decode cX11_chance 37 = .ok (.istore_n 3, 1) := by decide +kernel
theorem dX11_chance_38 : decode cX11_chance 38 = .ok (.goto 108, 3) := by decide +kernel
theorem dX11_chance_41 : decode cX11_chance 41 = .ok (.iload_n 1, 1) := by decide +kernel
theorem dX11_chance_42 : decode cX11_chance 42 = .ok (.iconst 2, 1) := by decide +kernel
theorem dX11_chance_43 : decode cX11_chance 43 = .ok (.if_icmp .ne 18, 3) := by decide +kernel
theorem dX11_chance_46 : decode cX11_chance 46 = .ok (.aload_n 0, 1) := by decide +kernel
theorem dX11_chance_47 : decode cX11_chance 47 = .ok (.getfield 34, 3) := by decide +kernel
theorem dX11_chance_50 : decode cX11_chance 50 = .ok (.iload_n 2, 1) := by decide +kernel
theorem dX11_chance_51 : decode cX11_chance 51 = .ok (.aload_n 0, 1) := by decide +kernel
theorem dX11_chance_52 : decode cX11_chance 52 = .ok (.bipush 10, 2) := by decide +kernel
theorem dX11_chance_54 : decode cX11_chance 54 = .ok (.invokevirtual 267, 3) := by decide +kernel
theorem dX11_chance_57 : decode cX11_chance 57 = .ok (.iastore, 1) := by decide +kernel
theorem dX11_chance_58 : decode cX11_chance 58 = .ok (.goto 88, 3) := by decide +kernel
theorem dX11_chance_61 : decode cX11_chance 61 = .ok (.iload_n 1, 1) := by decide +kernel
theorem dX11_chance_62 : decode cX11_chance 62 = .ok (.iconst 3, 1) := by decide +kernel
theorem dX11_chance_63 : decode cX11_chance 63 = .ok (.if_icmp .ne 33, 3) := by decide +kernel
theorem dX11_chance_66 : decode cX11_chance 66 = .ok (.aload_n 0, 1) := by decide +kernel
theorem dX11_chance_67 : decode cX11_chance 67 = .ok (.getfield 99, 3) := by decide +kernel
theorem dX11_chance_70 : decode cX11_chance 70 = .ok (.ifCond .le 26, 3) := by decide +kernel
theorem dX11_chance_73 : decode cX11_chance 73 = .ok (.aload_n 0, 1) := by decide +kernel
theorem dX11_chance_74 : decode cX11_chance 74 = .ok (.getfield 34, 3) := by decide +kernel
theorem dX11_chance_77 : decode cX11_chance 77 = .ok (.bipush 25, 2) := by decide +kernel
theorem dX11_chance_79 : decode cX11_chance 79 = .ok (.dup2, 1) := by decide +kernel
theorem dX11_chance_80 : decode cX11_chance 80 = .ok (.iaload, 1) := by decide +kernel
theorem dX11_chance_81 : decode cX11_chance 81 = .ok (.iconst 1, 1) := by decide +kernel
theorem dX11_chance_82 : decode cX11_chance 82 = .ok (.aload_n 0, 1) := by decide +kernel
theorem dX11_chance_83 : decode cX11_chance 83 = .ok (.aload_n 0, 1) := by decide +kernel
theorem dX11_chance_84 : decode cX11_chance 84 = .ok (.getfield 99, 3) := by decide +kernel
theorem dX11_chance_87 : decode cX11_chance 87 = .ok (.invokevirtual 267, 3) := by decide +kernel
theorem dX11_chance_90 : decode cX11_chance 90 = .ok (.ishl, 1) := by decide +kernel
theorem dX11_chance_91 : decode cX11_chance 91 = .ok (.ixor, 1) := by decide +kernel
theorem dX11_chance_92 : decode cX11_chance 92 = .ok (.iastore, 1) := by decide +kernel
theorem dX11_chance_93 : decode cX11_chance 93 = .ok (.goto 53, 3) := by decide +kernel
theorem dX11_chance_96 : decode cX11_chance 96 = .ok (.iload_n 1, 1) := by decide +kernel
theorem dX11_chance_97 : decode cX11_chance 97 = .ok (.iconst 4, 1) := by decide +kernel
theorem dX11_chance_98 : decode cX11_chance 98 = .ok (.if_icmp .ne 48, 3) := by decide +kernel
theorem dX11_chance_101 : decode cX11_chance 101 = .ok (.aload_n 0, 1) := by decide +kernel
theorem dX11_chance_102 : decode cX11_chance 102 = .ok (.getfield 34, 3) := by decide +kernel
theorem dX11_chance_105 : decode cX11_chance 105 = .ok (.bipush 16, 2) := by decide +kernel
theorem dX11_chance_107 : decode cX11_chance 107 = .ok (.iaload, 1) := by decide +kernel
theorem dX11_chance_108 : decode cX11_chance 108 = .ok (.ifCond .le 38, 3) := by decide +kernel
theorem dX11_chance_111 : decode cX11_chance 111 = .ok (.aload_n 0, 1) := by decide +kernel
theorem dX11_chance_112 : decode cX11_chance 112 = .ok (.aload_n 0, 1) := by decide +kernel
theorem dX11_chance_113 : decode cX11_chance 113 = .ok (.getfield 34, 3) := by decide +kernel
theorem dX11_chance_116 : decode cX11_chance 116 = .ok (.bipush 15, 2) := by decide +kernel
theorem dX11_chance_118 : decode cX11_chance 118 = .ok (.iaload, 1) := by decide +kernel
theorem dX11_chance_119 : decode cX11_chance 119 = .ok (.aload_n 0, 1) := by decide +kernel
theorem dX11_chance_120 : decode cX11_chance 120 = .ok (.getfield 166, 3) := by decide +kernel
theorem dX11_chance_123 : decode cX11_chance 123 = .ok (.aload_n 0, 1) := by decide +kernel
theorem dX11_chance_124 : decode cX11_chance 124 = .ok (.getfield 34, 3) := by decide +kernel
theorem dX11_chance_127 : decode cX11_chance 127 = .ok (.bipush 17, 2) := by decide +kernel
theorem dX11_chance_129 : decode cX11_chance 129 = .ok (.aload_n 0, 1) := by decide +kernel
theorem dX11_chance_130 : decode cX11_chance 130 = .ok (.aload_n 0, 1) := by decide +kernel
theorem dX11_chance_131 : decode cX11_chance 131 = .ok (.getfield 34, 3) := by decide +kernel
theorem dX11_chance_134 : decode cX11_chance 134 = .ok (.bipush 16, 2) := by decide +kernel
theorem dX11_chance_136 : decode cX11_chance 136 = .ok (.iaload, 1) := by decide +kernel
theorem dX11_chance_137 : decode cX11_chance 137 = .ok (.invokevirtual 267, 3) := by decide +kernel
theorem dX11_chance_140 : decode cX11_chance 140 = .ok (.iadd, 1) := by decide +kernel
theorem dX11_chance_141 : decode cX11_chance 141 = .ok (.iaload, 1) := by decide +kernel
theorem dX11_chance_142 : decode cX11_chance 142 = .ok (.invokevirtual 217, 3) := by decide +kernel
theorem dX11_chance_145 : decode cX11_chance 145 = .ok (.istore_n 3, 1) := by decide +kernel
theorem dX11_chance_146 : decode cX11_chance 146 = .ok (.return_, 1) := by decide +kernel
theorem dX11_drift_0 : decode cX11_drift 0 = .ok (.iload_n 1, 1) := by decide +kernel
theorem dX11_drift_1 : decode cX11_drift 1 = .ok (.i2l, 1) := by decide +kernel
theorem dX11_drift_2 : decode cX11_drift 2 = .ok (.lconst 1, 1) := by decide +kernel
theorem dX11_drift_3 : decode cX11_drift 3 = .ok (.ldc2_w 270, 3) := by decide +kernel
theorem dX11_drift_6 : decode cX11_drift 6 = .ok (.invokestatic 105, 3) := by decide +kernel
theorem dX11_drift_9 : decode cX11_drift 9 = .ok (.ifCond .ne 6, 3) := by decide +kernel
theorem dX11_drift_12 : decode cX11_drift 12 = .ok (.ldc 111, 2) := by decide +kernel
theorem dX11_drift_14 : decode cX11_drift 14 = .ok (.ireturn, 1) := by decide +kernel
theorem dX11_drift_15 : decode cX11_drift 15 = .ok (.aload_n 0, 1) := by decide +kernel
theorem dX11_drift_16 : decode cX11_drift 16 = .ok (.getfield 163, 3) := by decide +kernel
theorem dX11_drift_19 : decode cX11_drift 19 = .ok (.ifCond .ne 6, 3) := by decide +kernel
theorem dX11_drift_22 : decode cX11_drift 22 = .ok (.ldc 248, 2) := by decide +kernel
theorem dX11_drift_24 : decode cX11_drift 24 = .ok (.ireturn, 1) := by decide +kernel
theorem dX11_drift_25 : decode cX11_drift 25 = .ok (.aload_n 0, 1) := by decide +kernel
theorem dX11_drift_26 : decode cX11_drift 26 = .ok (.getfield 34, 3) := by decide +kernel
theorem dX11_drift_29 : decode cX11_drift 29 = .ok (.bipush 58, 2) := by decide +kernel
theorem dX11_drift_31 : decode cX11_drift 31 = .ok (.iaload, 1) := by decide +kernel
theorem dX11_drift_32 : decode cX11_drift 32 = .ok (.sipush 9000, 3) := by decide +kernel
theorem dX11_drift_35 : decode cX11_drift 35 = .ok (.if_icmp .le 6, 3) := by decide +kernel
theorem dX11_drift_38 : decode cX11_drift 38 = .ok (.ldc 115, 2) := by decide +kernel
theorem dX11_drift_40 : decode cX11_drift 40 = .ok (.ireturn, 1) := by decide +kernel
theorem dX11_drift_41 : decode cX11_drift 41 = .ok (.aload_n 0, 1) := by decide +kernel
theorem dX11_drift_42 : decode cX11_drift 42 = .ok (.invokevirtual 249, 3) := by decide +kernel
theorem dX11_drift_45 : decode cX11_drift 45 = .ok (.iconst 0, 1) := by decide +kernel
theorem dX11_drift_46 : decode cX11_drift 46 = .ok (.istore_n 2, 1) := by decide +kernel
theorem dX11_drift_47 : decode cX11_drift 47 = .ok (.iload_n 2, 1) := by decide +kernel
theorem dX11_drift_48 : decode cX11_drift 48 = .ok (.iload_n 1, 1) := by decide +kernel
theorem dX11_drift_49 : decode cX11_drift 49 = .ok (.if_icmp .ge 31, 3) := by decide +kernel
theorem dX11_drift_52 : decode cX11_drift 52 = .ok (.aload_n 0, 1) := by decide +kernel
theorem dX11_drift_53 : decode cX11_drift 53 = .ok (.getfield 102, 3) := by decide +kernel
theorem dX11_drift_56 : decode cX11_drift 56 = .ok (.ifCond .le 7, 3) := by decide +kernel
theorem dX11_drift_59 : decode cX11_drift 59 = .ok (.aload_n 0, 1) := by decide +kernel
theorem dX11_drift_60 : decode cX11_drift 60 = .ok (.invokevirtual 272, 3) := by decide +kernel
theorem dX11_drift_63 : decode cX11_drift 63 = .ok (.aload_n 0, 1) := by decide +kernel
theorem dX11_drift_64 : decode cX11_drift 64 = .ok (.getfield 34, 3) := by decide +kernel
theorem dX11_drift_67 : decode cX11_drift 67 = .ok (.bipush 58, 2) := by decide +kernel
theorem dX11_drift_69 : decode cX11_drift 69 = .ok (.dup2, 1) := by decide +kernel
theorem dX11_drift_70 : decode cX11_drift 70 = .ok (.iaload, 1) := by decide +kernel
theorem dX11_drift_71 : decode cX11_drift 71 = .ok (.iconst 1, 1) := by decide +kernel
theorem dX11_drift_72 : decode cX11_drift 72 = .ok (.iadd, 1) := by decide +kernel
theorem dX11_drift_73 : decode cX11_drift 73 = .ok (.iastore, 1) := by decide +kernel
theorem dX11_drift_74 : decode cX11_drift 74 = .ok (.iinc 2 1, 3) := by decide +kernel
theorem dX11_drift_77 : decode cX11_drift 77 = .ok (.goto (-30), 3) := by decide +kernel
theorem dX11_drift_80 : decode cX11_drift 80 = .ok (.aload_n 0, 1) := by decide +kernel
theorem dX11_drift_81 : decode cX11_drift 81 = .ok (.getfield 34, 3) := by decide +kernel
theorem dX11_drift_84 : decode cX11_drift 84 = .ok (.bipush 58, 2) := by decide +kernel
theorem dX11_drift_86 : decode cX11_drift 86 = .ok (.iaload, 1) := by decide +kernel
theorem dX11_drift_87 : decode cX11_drift 87 = .ok (.ireturn, 1) := by decide +kernel
theorem dX11_undo_0 : decode cX11_undo 0 = .ok (.aload_n 0, 1) := by decide +kernel
theorem dX11_undo_1 : decode cX11_undo 1 = .ok (.getfield 188, 3) := by decide +kernel
theorem dX11_undo_4 : decode cX11_undo 4 = .ok (.ifCond .ne 6, 3) := by decide +kernel
theorem dX11_undo_7 : decode cX11_undo 7 = .ok (.ldc 248, 2) := by decide +kernel
theorem dX11_undo_9 : decode cX11_undo 9 = .ok (.ireturn, 1) := by decide +kernel
theorem dX11_undo_10 : decode cX11_undo 10 = .ok (.aload_n 0, 1) := by decide +kernel
theorem dX11_undo_11 : decode cX11_undo 11 = .ok (.dup, 1) := by decide +kernel
theorem dX11_undo_12 : decode cX11_undo 12 = .ok (.getfield 188, 3) := by decide +kernel
theorem dX11_undo_15 : decode cX11_undo 15 = .ok (.iconst 1, 1) := by decide +kernel
theorem dX11_undo_16 : decode cX11_undo 16 = .ok (.isub, 1) := by decide +kernel
theorem dX11_undo_17 : decode cX11_undo 17 = .ok (.putfield 188, 3) := by decide +kernel
theorem dX11_undo_20 : decode cX11_undo 20 = .ok (.iconst 0, 1) := by decide +kernel
theorem dX11_undo_21 : decode cX11_undo 21 = .ok (.istore_n 1, 1) := by decide +kernel
theorem dX11_undo_22 : decode cX11_undo 22 = .ok (.iload_n 1, 1) := by decide +kernel
theorem dX11_undo_23 : decode cX11_undo 23 = .ok (.bipush 59, 2) := by decide +kernel
theorem dX11_undo_25 : decode cX11_undo 25 = .ok (.if_icmp .ge 29, 3) := by decide +kernel
theorem dX11_undo_28 : decode cX11_undo 28 = .ok (.aload_n 0, 1) := by decide +kernel
theorem dX11_undo_29 : decode cX11_undo 29 = .ok (.getfield 34, 3) := by decide +kernel
theorem dX11_undo_32 : decode cX11_undo 32 = .ok (.iload_n 1, 1) := by decide +kernel
theorem dX11_undo_33 : decode cX11_undo 33 = .ok (.aload_n 0, 1) := by decide +kernel
theorem dX11_undo_34 : decode cX11_undo 34 = .ok (.getfield 71, 3) := by decide +kernel
theorem dX11_undo_37 : decode cX11_undo 37 = .ok (.bipush 59, 2) := by decide +kernel
theorem dX11_undo_39 : decode cX11_undo 39 = .ok (.aload_n 0, 1) := by decide +kernel
theorem dX11_undo_40 : decode cX11_undo 40 = .ok (.getfield 188, 3) := by decide +kernel
theorem dX11_undo_43 : decode cX11_undo 43 = .ok (.imul, 1) := by decide +kernel
theorem dX11_undo_44 : decode cX11_undo 44 = .ok (.iload_n 1, 1) := by decide +kernel
theorem dX11_undo_45 : decode cX11_undo 45 = .ok (.iadd, 1) := by decide +kernel
theorem dX11_undo_46 : decode cX11_undo 46 = .ok (.iaload, 1) := by decide +kernel
theorem dX11_undo_47 : decode cX11_undo 47 = .ok (.iastore, 1) := by decide +kernel
theorem dX11_undo_48 : decode cX11_undo 48 = .ok (.iinc 1 1, 3) := by decide +kernel
theorem dX11_undo_51 : decode cX11_undo 51 = .ok (.goto (-29), 3) := by decide +kernel
theorem dX11_undo_54 : decode cX11_undo 54 = .ok (.aload_n 0, 1) := by decide +kernel
theorem dX11_undo_55 : decode cX11_undo 55 = .ok (.getfield 188, 3) := by decide +kernel
theorem dX11_undo_58 : decode cX11_undo 58 = .ok (.ireturn, 1) := by decide +kernel
theorem dX11_keepNow_0 : decode cX11_keepNow 0 = .ok (.aload_n 0, 1) := by decide +kernel
theorem dX11_keepNow_1 : decode cX11_keepNow 1 = .ok (.getfield 34, 3) := by decide +kernel
theorem dX11_keepNow_4 : decode cX11_keepNow 4 = .ok (.aload_n 0, 1) := by decide +kernel
theorem dX11_keepNow_5 : decode cX11_keepNow 5 = .ok (.getfield 74, 3) := by decide +kernel
theorem dX11_keepNow_8 : decode cX11_keepNow 8 = .ok (.bipush 59, 2) := by decide +kernel
theorem dX11_keepNow_10 : decode cX11_keepNow 10 = .ok (.invokestatic 169, 3) := by decide +kernel
theorem dX11_keepNow_13 : decode cX11_keepNow 13 = .ok (.return_, 1) := by decide +kernel
theorem dX11_putBack_0 : decode cX11_putBack 0 = .ok (.aload_n 0, 1) := by decide +kernel
theorem dX11_putBack_1 : decode cX11_putBack 1 = .ok (.getfield 74, 3) := by decide +kernel
theorem dX11_putBack_4 : decode cX11_putBack 4 = .ok (.aload_n 0, 1) := by decide +kernel
theorem dX11_putBack_5 : decode cX11_putBack 5 = .ok (.getfield 34, 3) := by decide +kernel
theorem dX11_putBack_8 : decode cX11_putBack 8 = .ok (.bipush 59, 2) := by decide +kernel
theorem dX11_putBack_10 : decode cX11_putBack 10 = .ok (.invokestatic 169, 3) := by decide +kernel
theorem dX11_putBack_13 : decode cX11_putBack 13 = .ok (.return_, 1) := by decide +kernel
theorem dX11_opensFrom_0 : decode cX11_opensFrom 0 = .ok (.aload_n 0, 1) := by decide +kernel
theorem dX11_opensFrom_1 : decode cX11_opensFrom 1 = .ok (.getfield 34, 3) := by decide +kernel
theorem dX11_opensFrom_4 : decode cX11_opensFrom 4 = .ok (.bipush 10, 2) := by decide +kernel
theorem dX11_opensFrom_6 : decode cX11_opensFrom 6 = .ok (.iload_n 1, 1) := by decide +kernel
theorem dX11_opensFrom_7 : decode cX11_opensFrom 7 = .ok (.iadd, 1) := by decide +kernel
theorem dX11_opensFrom_8 : decode cX11_opensFrom 8 = .ok (.iaload, 1) := by decide +kernel
theorem dX11_opensFrom_9 : decode cX11_opensFrom 9 = .ok (.ifCond .ne 5, 3) := by decide +kernel
theorem dX11_opensFrom_12 : decode cX11_opensFrom 12 = .ok (.iconst 0, 1) := by decide +kernel
theorem dX11_opensFrom_13 : decode cX11_opensFrom 13 = .ok (.ireturn, 1) := by decide +kernel
theorem dX11_opensFrom_14 : decode cX11_opensFrom 14 = .ok (.aload_n 0, 1) := by decide +kernel
theorem dX11_opensFrom_15 : decode cX11_opensFrom 15 = .ok (.invokevirtual 275, 3) := by decide +kernel
theorem dX11_opensFrom_18 : decode cX11_opensFrom 18 = .ok (.aload_n 0, 1) := by decide +kernel
theorem dX11_opensFrom_19 : decode cX11_opensFrom 19 = .ok (.getfield 34, 3) := by decide +kernel
theorem dX11_opensFrom_22 : decode cX11_opensFrom 22 = .ok (.iload_n 1, 1) := by decide +kernel
theorem dX11_opensFrom_23 : decode cX11_opensFrom 23 = .ok (.iload_n 2, 1) := by decide +kernel
theorem dX11_opensFrom_24 : decode cX11_opensFrom 24 = .ok (.iastore, 1) := by decide +kernel
theorem dX11_opensFrom_25 : decode cX11_opensFrom 25 = .ok (.aload_n 0, 1) := by decide +kernel
theorem dX11_opensFrom_26 : decode cX11_opensFrom 26 = .ok (.iload_n 1, 1) := by decide +kernel
theorem dX11_opensFrom_27 : decode cX11_opensFrom 27 = .ok (.invokevirtual 252, 3) := by decide +kernel
theorem dX11_opensFrom_30 : decode cX11_opensFrom 30 = .ok (.istore_n 3, 1) := by decide +kernel
theorem dX11_opensFrom_31 : decode cX11_opensFrom 31 = .ok (.aload_n 0, 1) := by decide +kernel
theorem dX11_opensFrom_32 : decode cX11_opensFrom 32 = .ok (.invokevirtual 278, 3) := by decide +kernel
theorem dX11_opensFrom_35 : decode cX11_opensFrom 35 = .ok (.iload_n 3, 1) := by decide +kernel
theorem dX11_opensFrom_36 : decode cX11_opensFrom 36 = .ok (.ireturn, 1) := by decide +kernel
theorem dX11_wouldOpen_0 : decode cX11_wouldOpen 0 = .ok (.aload_n 0, 1) := by decide +kernel
theorem dX11_wouldOpen_1 : decode cX11_wouldOpen 1 = .ok (.iload_n 1, 1) := by decide +kernel
theorem dX11_wouldOpen_2 : decode cX11_wouldOpen 2 = .ok (.invokevirtual 233, 3) := by decide +kernel
theorem dX11_wouldOpen_5 : decode cX11_wouldOpen 5 = .ok (.ifCond .ne 6, 3) := by decide +kernel
theorem dX11_wouldOpen_8 : decode cX11_wouldOpen 8 = .ok (.ldc 237, 2) := by decide +kernel
theorem dX11_wouldOpen_10 : decode cX11_wouldOpen 10 = .ok (.ireturn, 1) := by decide +kernel
theorem dX11_wouldOpen_11 : decode cX11_wouldOpen 11 = .ok (.iload_n 2, 1) := by decide +kernel
theorem dX11_wouldOpen_12 : decode cX11_wouldOpen 12 = .ok (.i2l, 1) := by decide +kernel
theorem dX11_wouldOpen_13 : decode cX11_wouldOpen 13 = .ok (.ldc2_w 281, 3) := by decide +kernel
theorem dX11_wouldOpen_16 : decode cX11_wouldOpen 16 = .ok (.ldc2_w 255, 3) := by decide +kernel
theorem dX11_wouldOpen_19 : decode cX11_wouldOpen 19 = .ok (.invokestatic 105, 3) := by decide +kernel
theorem dX11_wouldOpen_22 : decode cX11_wouldOpen 22 = .ok (.ifCond .ne 6, 3) := by decide +kernel
theorem dX11_wouldOpen_25 : decode cX11_wouldOpen 25 = .ok (.ldc 111, 2) := by decide +kernel
theorem dX11_wouldOpen_27 : decode cX11_wouldOpen 27 = .ok (.ireturn, 1) := by decide +kernel
theorem dX11_wouldOpen_28 : decode cX11_wouldOpen 28 = .ok (.aload_n 0, 1) := by decide +kernel
theorem dX11_wouldOpen_29 : decode cX11_wouldOpen 29 = .ok (.iload_n 1, 1) := by decide +kernel
theorem dX11_wouldOpen_30 : decode cX11_wouldOpen 30 = .ok (.iload_n 2, 1) := by decide +kernel
theorem dX11_wouldOpen_31 : decode cX11_wouldOpen 31 = .ok (.iconst (-1), 1) := by decide +kernel
theorem dX11_wouldOpen_32 : decode cX11_wouldOpen 32 = .ok (.if_icmp .ne 12, 3) := by decide +kernel
