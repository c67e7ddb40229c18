theorem dX6_init_6 : decode cX6_init 6 = .ok (.anewarray 9, 3) := by decide +kernel
theorem dX6_init_9 : decode cX6_init 9 = .ok (.putfield 11, 3) := by decide +kernel
theorem dX6_init_12 : decode cX6_init 12 = .ok (.aload_n 0, 1) := by decide +kernel
theorem dX6_init_13 : decode cX6_init 13 = .ok (.iconst 3, 1) := by decide +kernel
theorem dX6_init_14 : decode cX6_init 14 = .ok (.newarray .int, 2) := by decide +kernel
theorem dX6_init_16 : decode cX6_init 16 = .ok (.putfield 17, 3) := by decide +kernel
theorem dX6_init_19 : decode cX6_init 19 = .ok (.iconst 0, 1) := by decide +kernel
theorem dX6_init_20 : decode cX6_init 20 = .ok (.istore_n 2, 1) := by decide +kernel
theorem dX6_init_21 : decode cX6_init 21 = .ok (.iload_n 2, 1) := by decide +kernel
theorem dX6_init_22 : decode cX6_init 22 = .ok (.iconst 3, 1) := by decide +kernel
theorem dX6_init_23 : decode cX6_init 23 = .ok (.if_icmp .gt 23, 3) := by decide +kernel
theorem dX6_init_26 : decode cX6_init 26 = .ok (.aload_n 0, 1) := by decide +kernel
theorem dX6_init_27 : decode cX6_init 27 = .ok (.getfield 11, 3) := by decide +kernel
theorem dX6_init_30 : decode cX6_init 30 = .ok (.iload_n 2, 1) := by decide +kernel
theorem dX6_init_31 : decode cX6_init 31 = .ok (.new 9, 3) := by decide +kernel
theorem dX6_init_34 : decode cX6_init 34 = .ok (.dup, 1) := by decide +kernel
theorem dX6_init_35 : decode cX6_init 35 = .ok (.aload_n 1, 1) := by decide +kernel
theorem dX6_init_36 : decode cX6_init 36 = .ok (.invokespecial 21, 3) := by decide +kernel
theorem dX6_init_39 : decode cX6_init 39 = .ok (.aastore, 1) := by decide +kernel
theorem dX6_init_40 : decode cX6_init 40 = .ok (.iinc 2 1, 3) := by decide +kernel
theorem dX6_init_43 : decode cX6_init 43 = .ok (.goto (-22), 3) := by decide +kernel
theorem dX6_init_46 : decode cX6_init 46 = .ok (.return_, 1) := by decide +kernel
theorem dX6_find_0 : decode cX6_find 0 = .ok (.aload_n 0, 1) := by decide +kernel
theorem dX6_find_1 : decode cX6_find 1 = .ok (.getfield 11, 3) := by decide +kernel
theorem dX6_find_4 : decode cX6_find 4 = .ok (.iconst 0, 1) := by decide +kernel
theorem dX6_find_5 : decode cX6_find 5 = .ok (.aaload, 1) := by decide +kernel
theorem dX6_find_6 : decode cX6_find 6 = .ok (.aload_n 1, 1) := by decide +kernel
theorem dX6_find_7 : decode cX6_find 7 = .ok (.invokevirtual 24, 3) := by decide +kernel
theorem dX6_find_10 : decode cX6_find 10 = .ok (.aload_n 1, 1) := by decide +kernel
theorem dX6_find_11 : decode cX6_find 11 = .ok (.invokevirtual 28, 3) := by decide +kernel
theorem dX6_find_14 : decode cX6_find 14 = .ok (.istore_n 2, 1) := by decide +kernel
theorem dX6_find_15 : decode cX6_find 15 = .ok (.iconst 0, 1) := by decide +kernel
theorem dX6_find_16 : decode cX6_find 16 = .ok (.istore_n 3, 1) := by decide +kernel
theorem dX6_find_17 : decode cX6_find 17 = .ok (.iload_n 3, 1) := by decide +kernel
theorem dX6_find_18 : decode cX6_find 18 = .ok (.iconst 3, 1) := by decide +kernel
theorem dX6_find_19 : decode cX6_find 19 = .ok (.if_icmp .gt 21, 3) := by decide +kernel
theorem dX6_find_22 : decode cX6_find 22 = .ok (.aload_n 0, 1) := by decide +kernel
theorem dX6_find_23 : decode cX6_find 23 = .ok (.iconst 0, 1) := by decide +kernel
theorem dX6_find_24 : decode cX6_find 24 = .ok (.iload_n 3, 1) := by decide +kernel
theorem dX6_find_25 : decode cX6_find 25 = .ok (.iload_n 2, 1) := by decide +kernel
theorem dX6_find_26 : decode cX6_find 26 = .ok (.invokestatic 32, 3) := by decide +kernel
theorem dX6_find_29 : decode cX6_find 29 = .ok (.ifCond .eq 5, 3) := by decide +kernel
theorem dX6_find_32 : decode cX6_find 32 = .ok (.iload_n 3, 1) := by decide +kernel
theorem dX6_find_33 : decode cX6_find 33 = .ok (.ireturn, 1) := by decide +kernel
theorem dX6_find_34 : decode cX6_find 34 = .ok (.iinc 3 1, 3) := by decide +kernel
theorem dX6_find_37 : decode cX6_find 37 = .ok (.goto (-20), 3) := by decide +kernel
theorem dX6_find_40 : decode cX6_find 40 = .ok (.iconst (-1), 1) := by decide +kernel
theorem dX6_find_41 : decode cX6_find 41 = .ok (.ireturn, 1) := by decide +kernel
theorem dX6_canEnd_0 : decode cX6_canEnd 0 = .ok (.iload_n 1, 1) := by decide +kernel
theorem dX6_canEnd_1 : decode cX6_canEnd 1 = .ok (.iload_n 2, 1) := by decide +kernel
theorem dX6_canEnd_2 : decode cX6_canEnd 2 = .ok (.if_icmp .ge 8, 3) := by decide +kernel
theorem dX6_canEnd_5 : decode cX6_canEnd 5 = .ok (.iload_n 1, 1) := by decide +kernel
theorem dX6_canEnd_6 : decode cX6_canEnd 6 = .ok (.iconst 3, 1) := by decide +kernel
theorem dX6_canEnd_7 : decode cX6_canEnd 7 = .ok (.if_icmp .lt 13, 3) := by decide +kernel
theorem dX6_canEnd_10 : decode cX6_canEnd 10 = .ok (.iload_n 3, 1) := by decide +kernel
theorem dX6_canEnd_11 : decode cX6_canEnd 11 = .ok (.ifCond .ne 7, 3) := by decide +kernel
theorem dX6_canEnd_14 : decode cX6_canEnd 14 = .ok (.iconst 1, 1) := by decide +kernel
theorem dX6_canEnd_15 : decode cX6_canEnd 15 = .ok (.goto 4, 3) := by decide +kernel
theorem dX6_canEnd_18 : decode cX6_canEnd 18 = .ok (.iconst 0, 1) := by decide +kernel
theorem dX6_canEnd_19 : decode cX6_canEnd 19 = .ok (.ireturn, 1) := by decide +kernel
theorem dX6_canEnd_20 : decode cX6_canEnd 20 = .ok (.aload_n 0, 1) := by decide +kernel
theorem dX6_canEnd_21 : decode cX6_canEnd 21 = .ok (.getfield 11, 3) := by decide +kernel
theorem dX6_canEnd_24 : decode cX6_canEnd 24 = .ok (.iload_n 1, 1) := by decide +kernel
theorem dX6_canEnd_25 : decode cX6_canEnd 25 = .ok (.aaload, 1) := by decide +kernel
theorem dX6_canEnd_26 : decode cX6_canEnd 26 = .ok (.astore 4, 2) := by decide +kernel
theorem dX6_canEnd_28 : decode cX6_canEnd 28 = .ok (.aload_n 0, 1) := by decide +kernel
theorem dX6_canEnd_29 : decode cX6_canEnd 29 = .ok (.getfield 11, 3) := by decide +kernel
theorem dX6_canEnd_32 : decode cX6_canEnd 32 = .ok (.iload_n 1, 1) := by decide +kernel
theorem dX6_canEnd_33 : decode cX6_canEnd 33 = .ok (.iconst 1, 1) := by decide +kernel
theorem dX6_canEnd_34 : decode cX6_canEnd 34 = .ok (.iadd, 1) := by decide +kernel
theorem dX6_canEnd_35 : decode cX6_canEnd 35 = .ok (.aaload, 1) := by decide +kernel
theorem dX6_canEnd_36 : decode cX6_canEnd 36 = .ok (.astore 5, 2) := by decide +kernel
theorem dX6_canEnd_38 : decode cX6_canEnd 38 = .ok (.iconst 0, 1) := by decide +kernel
theorem dX6_canEnd_39 : decode cX6_canEnd 39 = .ok (.istore 6, 2) := by decide +kernel
theorem dX6_canEnd_41 : decode cX6_canEnd 41 = .ok (.iload 6, 2) := by decide +kernel
theorem dX6_canEnd_43 : decode cX6_canEnd 43 = .ok (.aload 4, 2) := by decide +kernel
theorem dX6_canEnd_45 : decode cX6_canEnd 45 = .ok (.getfield 36, 3) := by decide +kernel
theorem dX6_canEnd_48 : decode cX6_canEnd 48 = .ok (.if_icmp .ge 80, 3) := by decide +kernel
theorem dX6_canEnd_51 : decode cX6_canEnd 51 = .ok (.aload_n 0, 1) := by decide +kernel
theorem dX6_canEnd_52 : decode cX6_canEnd 52 = .ok (.getfield 17, 3) := by decide +kernel
theorem dX6_canEnd_55 : decode cX6_canEnd 55 = .ok (.iload_n 1, 1) := by decide +kernel
theorem dX6_canEnd_56 : decode cX6_canEnd 56 = .ok (.iload 6, 2) := by decide +kernel
theorem dX6_canEnd_58 : decode cX6_canEnd 58 = .ok (.iastore, 1) := by decide +kernel
theorem dX6_canEnd_59 : decode cX6_canEnd 59 = .ok (.aload 5, 2) := by decide +kernel
theorem dX6_canEnd_61 : decode cX6_canEnd 61 = .ok (.aload 4, 2) := by decide +kernel
theorem dX6_canEnd_63 : decode cX6_canEnd 63 = .ok (.invokevirtual 24, 3) := by decide +kernel
theorem dX6_canEnd_66 : decode cX6_canEnd 66 = .ok (.iload_n 3, 1) := by decide +kernel
theorem dX6_canEnd_67 : decode cX6_canEnd 67 = .ok (.aload 5, 2) := by decide +kernel
theorem dX6_canEnd_69 : decode cX6_canEnd 69 = .ok (.iload 6, 2) := by decide +kernel
theorem dX6_canEnd_71 : decode cX6_canEnd 71 = .ok (.invokevirtual 40, 3) := by decide +kernel
theorem dX6_canEnd_74 : decode cX6_canEnd 74 = .ok (.iconst (-1), 1) := by decide +kernel
theorem dX6_canEnd_75 : decode cX6_canEnd 75 = .ok (.ixor, 1) := by decide +kernel
theorem dX6_canEnd_76 : decode cX6_canEnd 76 = .ok (.iand, 1) := by decide +kernel
theorem dX6_canEnd_77 : decode cX6_canEnd 77 = .ok (.istore 7, 2) := by decide +kernel
theorem dX6_canEnd_79 : decode cX6_canEnd 79 = .ok (.iload 7, 2) := by decide +kernel
theorem dX6_canEnd_81 : decode cX6_canEnd 81 = .ok (.iload_n 3, 1) := by decide +kernel
theorem dX6_canEnd_82 : decode cX6_canEnd 82 = .ok (.if_icmp .ne 17, 3) := by decide +kernel
theorem dX6_canEnd_85 : decode cX6_canEnd 85 = .ok (.aload 5, 2) := by decide +kernel
theorem dX6_canEnd_87 : decode cX6_canEnd 87 = .ok (.aload 4, 2) := by decide +kernel
theorem dX6_canEnd_89 : decode cX6_canEnd 89 = .ok (.invokevirtual 44, 3) := by decide +kernel
theorem dX6_canEnd_92 : decode cX6_canEnd 92 = .ok (.ifCond .eq 7, 3) := by decide +kernel
theorem dX6_canEnd_95 : decode cX6_canEnd 95 = .ok (.iconst 1, 1) := by decide +kernel
theorem dX6_canEnd_96 : decode cX6_canEnd 96 = .ok (.goto 4, 3) := by decide +kernel
theorem dX6_canEnd_99 : decode cX6_canEnd 99 = .ok (.iconst 0, 1) := by decide +kernel
theorem dX6_canEnd_100 : decode cX6_canEnd 100 = .ok (.istore 8, 2) := by decide +kernel
theorem dX6_canEnd_102 : decode cX6_canEnd 102 = .ok (.iload 8, 2) := by decide +kernel
theorem dX6_canEnd_104 : decode cX6_canEnd 104 = .ok (.ifCond .ne 18, 3) := by decide +kernel
theorem dX6_canEnd_107 : decode cX6_canEnd 107 = .ok (.aload_n 0, 1) := by decide +kernel
theorem dX6_canEnd_108 : decode cX6_canEnd 108 = .ok (.iload_n 1, 1) := by decide +kernel
theorem dX6_canEnd_109 : decode cX6_canEnd 109 = .ok (.iconst 1, 1) := by decide +kernel
theorem dX6_canEnd_110 : decode cX6_canEnd 110 = .ok (.iadd, 1) := by decide +kernel
theorem dX6_canEnd_111 : decode cX6_canEnd 111 = .ok (.iload_n 2, 1) := by decide +kernel
theorem dX6_canEnd_112 : decode cX6_canEnd 112 = .ok (.iload 7, 2) := by decide +kernel
theorem dX6_canEnd_114 : decode cX6_canEnd 114 = .ok (.invokestatic 32, 3) := by decide +kernel
theorem dX6_canEnd_117 : decode cX6_canEnd 117 = .ok (.ifCond .eq 5, 3) := by decide +kernel
theorem dX6_canEnd_120 : decode cX6_canEnd 120 = .ok (.iconst 1, 1) := by decide +kernel
theorem dX6_canEnd_121 : decode cX6_canEnd 121 = .ok (.ireturn, 1) := by decide +kernel
theorem dX6_canEnd_122 : decode cX6_canEnd 122 = .ok (.iinc 6 1, 3) := by decide +kernel
theorem dX6_canEnd_125 : decode cX6_canEnd 125 = .ok (.goto (-84), 3) := by decide +kernel
theorem dX6_canEnd_128 : decode cX6_canEnd 128 = .ok (.iconst 0, 1) := by decide +kernel
theorem dX6_canEnd_129 : decode cX6_canEnd 129 = .ok (.ireturn, 1) := by decide +kernel
theorem dX7_init_0 : decode cX7_init 0 = .ok (.aload_n 0, 1) := by decide +kernel
theorem dX7_init_1 : decode cX7_init 1 = .ok (.invokespecial 3, 3) := by decide +kernel
theorem dX7_init_4 : decode cX7_init 4 = .ok (.aload_n 0, 1) := by decide +kernel
theorem dX7_init_5 : decode cX7_init 5 = .ok (.bipush 8, 2) := by decide +kernel
theorem dX7_init_7 : decode cX7_init 7 = .ok (.newarray .int, 2) := by decide +kernel
theorem dX7_init_9 : decode cX7_init 9 = .ok (.putfield 9, 3) := by decide +kernel
theorem dX7_init_12 : decode cX7_init 12 = .ok (.aload_n 0, 1) := by decide +kernel
theorem dX7_init_13 : decode cX7_init 13 = .ok (.iconst 5, 1) := by decide +kernel
theorem dX7_init_14 : decode cX7_init 14 = .ok (.newarray .int, 2) := by decide +kernel
theorem dX7_init_16 : decode cX7_init 16 = .ok (.putfield 15, 3) := by decide +kernel
theorem dX7_init_19 : decode cX7_init 19 = .ok (.aload_n 0, 1) := by decide +kernel
theorem dX7_init_20 : decode cX7_init 20 = .ok (.iconst 5, 1) := by decide +kernel
theorem dX7_init_21 : decode cX7_init 21 = .ok (.newarray .int, 2) := by decide +kernel
theorem dX7_init_23 : decode cX7_init 23 = .ok (.putfield 18, 3) := by decide +kernel
theorem dX7_init_26 : decode cX7_init 26 = .ok (.aload_n 0, 1) := by decide +kernel
theorem dX7_init_27 : decode cX7_init 27 = .ok (.iconst 5, 1) := by decide +kernel
theorem dX7_init_28 : decode cX7_init 28 = .ok (.newarray .int, 2) := by decide +kernel
theorem dX7_init_30 : decode cX7_init 30 = .ok (.putfield 21, 3) := by decide +kernel
theorem dX7_init_33 : decode cX7_init 33 = .ok (.aload_n 0, 1) := by decide +kernel
theorem dX7_init_34 : decode cX7_init 34 = .ok (.iconst 4, 1) := by decide +kernel
theorem dX7_init_35 : decode cX7_init 35 = .ok (.newarray .int, 2) := by decide +kernel
theorem dX7_init_37 : decode cX7_init 37 = .ok (.putfield 24, 3) := by decide +kernel
theorem dX7_init_40 : decode cX7_init 40 = .ok (.aload_n 0, 1) := by decide +kernel
theorem dX7_init_41 : decode cX7_init 41 = .ok (.iconst 4, 1) := by decide +kernel
theorem dX7_init_42 : decode cX7_init 42 = .ok (.newarray .int, 2) := by decide +kernel
theorem dX7_init_44 : decode cX7_init 44 = .ok (.putfield 27, 3) := by decide +kernel
theorem dX7_init_47 : decode cX7_init 47 = .ok (.aload_n 0, 1) := by decide +kernel
theorem dX7_init_48 : decode cX7_init 48 = .ok (.iconst 4, 1) := by decide +kernel
theorem dX7_init_49 : decode cX7_init 49 = .ok (.newarray .int, 2) := by decide +kernel
theorem dX7_init_51 : decode cX7_init 51 = .ok (.putfield 30, 3) := by decide +kernel
theorem dX7_init_54 : decode cX7_init 54 = .ok (.aload_n 0, 1) := by decide +kernel
theorem dX7_init_55 : decode cX7_init 55 = .ok (.bipush 20, 2) := by decide +kernel
theorem dX7_init_57 : decode cX7_init 57 = .ok (.newarray .int, 2) := by decide +kernel
theorem dX7_init_59 : decode cX7_init 59 = .ok (.putfield 33, 3) := by decide +kernel
theorem dX7_init_62 : decode cX7_init 62 = .ok (.aload_n 0, 1) := by decide +kernel
theorem dX7_init_63 : decode cX7_init 63 = .ok (.aload_n 1, 1) := by decide +kernel
theorem dX7_init_64 : decode cX7_init 64 = .ok (.putfield 36, 3) := by decide +kernel
theorem dX7_init_67 : decode cX7_init 67 = .ok (.return_, 1) := by decide +kernel
theorem dX7_begin_0 : decode cX7_begin 0 = .ok (.aload_n 0, 1) := by decide +kernel
theorem dX7_begin_1 : decode cX7_begin 1 = .ok (.iconst 0, 1) := by decide +kernel
theorem dX7_begin_2 : decode cX7_begin 2 = .ok (.putfield 40, 3) := by decide +kernel
theorem dX7_begin_5 : decode cX7_begin 5 = .ok (.aload_n 0, 1) := by decide +kernel
theorem dX7_begin_6 : decode cX7_begin 6 = .ok (.aload_n 0, 1) := by decide +kernel
theorem dX7_begin_7 : decode cX7_begin 7 = .ok (.getfield 36, 3) := by decide +kernel
theorem dX7_begin_10 : decode cX7_begin 10 = .ok (.getfield 44, 3) := by decide +kernel
theorem dX7_begin_13 : decode cX7_begin 13 = .ok (.putfield 49, 3) := by decide +kernel
theorem dX7_begin_16 : decode cX7_begin 16 = .ok (.aload_n 0, 1) := by decide +kernel
theorem dX7_begin_17 : decode cX7_begin 17 = .ok (.iconst 0, 1) := by decide +kernel
theorem dX7_begin_18 : decode cX7_begin 18 = .ok (.putfield 50, 3) := by decide +kernel
theorem dX7_begin_21 : decode cX7_begin 21 = .ok (.aload_n 0, 1) := by decide +kernel
theorem dX7_begin_22 : decode cX7_begin 22 = .ok (.iconst 0, 1) := by decide +kernel
theorem dX7_begin_23 : decode cX7_begin 23 = .ok (.putfield 53, 3) := by decide +kernel
theorem dX7_begin_26 : decode cX7_begin 26 = .ok (.iconst 0, 1) := by decide +kernel
theorem dX7_begin_27 : decode cX7_begin 27 = .ok (.istore_n 1, 1) := by decide +kernel
theorem dX7_begin_28 : decode cX7_begin 28 = .ok (.iload_n 1, 1) := by decide +kernel
theorem dX7_begin_29 : decode cX7_begin 29 = .ok (.iconst 5, 1) := by decide +kernel
theorem dX7_begin_30 : decode cX7_begin 30 = .ok (.if_icmp .ge 47, 3) := by decide +kernel
theorem dX7_begin_33 : decode cX7_begin 33 = .ok (.aload_n 0, 1) := by decide +kernel
theorem dX7_begin_34 : decode cX7_begin 34 = .ok (.getfield 15, 3) := by decide +kernel
theorem dX7_begin_37 : decode cX7_begin 37 = .ok (.iload_n 1, 1) := by decide +kernel
theorem dX7_begin_38 : decode cX7_begin 38 = .ok (.aload_n 0, 1) := by decide +kernel
theorem dX7_begin_39 : decode cX7_begin 39 = .ok (.getfield 36, 3) := by decide +kernel
theorem dX7_begin_42 : decode cX7_begin 42 = .ok (.getfield 56, 3) := by decide +kernel
theorem dX7_begin_45 : decode cX7_begin 45 = .ok (.iload_n 1, 1) := by decide +kernel
theorem dX7_begin_46 : decode cX7_begin 46 = .ok (.iaload, 1) := by decide +kernel
theorem dX7_begin_47 : decode cX7_begin 47 = .ok (.iastore, 1) := by decide +kernel
theorem dX7_begin_48 : decode cX7_begin 48 = .ok (.aload_n 0, 1) := by decide +kernel
theorem dX7_begin_49 : decode cX7_begin 49 = .ok (.getfield 18, 3) := by decide +kernel
theorem dX7_begin_52 : decode cX7_begin 52 = .ok (.iload_n 1, 1) := by decide +kernel
theorem dX7_begin_53 : decode cX7_begin 53 = .ok (.aload_n 0, 1) := by decide +kernel
theorem dX7_begin_54 : decode cX7_begin 54 = .ok (.getfield 36, 3) := by decide +kernel
theorem dX7_begin_57 : decode cX7_begin 57 = .ok (.getfield 59, 3) := by decide +kernel
theorem dX7_begin_60 : decode cX7_begin 60 = .ok (.iload_n 1, 1) := by decide +kernel
theorem dX7_begin_61 : decode cX7_begin 61 = .ok (.iaload, 1) := by decide +kernel
theorem dX7_begin_62 : decode cX7_begin 62 = .ok (.iastore, 1) := by decide +kernel
theorem dX7_begin_63 : decode cX7_begin 63 = .ok (.aload_n 0, 1) := by decide +kernel
theorem dX7_begin_64 : decode cX7_begin 64 = .ok (.getfield 21, 3) := by decide +kernel
theorem dX7_begin_67 : decode cX7_begin 67 = .ok (.iload_n 1, 1) := by decide +kernel
theorem dX7_begin_68 : decode cX7_begin 68 = .ok (.bipush 60, 2) := by decide +kernel
theorem dX7_begin_70 : decode cX7_begin 70 = .ok (.iastore, 1) := by decide +kernel
theorem dX7_begin_71 : decode cX7_begin 71 = .ok (.iinc 1 1, 3) := by decide +kernel
theorem dX7_begin_74 : decode cX7_begin 74 = .ok (.goto (-46), 3) := by decide +kernel
theorem dX7_begin_77 : decode cX7_begin 77 = .ok (.iconst 0, 1) := by decide +kernel
theorem dX7_begin_78 : decode cX7_begin 78 = .ok (.istore_n 1, 1) := by decide +kernel
theorem dX7_begin_79 : decode cX7_begin 79 = .ok (.iload_n 1, 1) := by decide +kernel
theorem dX7_begin_80 : decode cX7_begin 80 = .ok (.iconst 4, 1) := by decide +kernel
theorem dX7_begin_81 : decode cX7_begin 81 = .ok (.if_icmp .ge 42, 3) := by decide +kernel
theorem dX7_begin_84 : decode cX7_begin 84 = .ok (.aload_n 0, 1) := by decide +kernel
theorem dX7_begin_85 : decode cX7_begin 85 = .ok (.getfield 24, 3) := by decide +kernel
theorem dX7_begin_88 : decode cX7_begin 88 = .ok (.iload_n 1, 1) := by decide +kernel
theorem dX7_begin_89 : decode cX7_begin 89 = .ok (.iconst 0, 1) := by decide +kernel
theorem dX7_begin_90 : decode cX7_begin 90 = .ok (.iastore, 1) := by decide +kernel
theorem dX7_begin_91 : decode cX7_begin 91 = .ok (.aload_n 0, 1) := by decide +kernel
theorem dX7_begin_92 : decode cX7_begin 92 = .ok (.iload_n 1, 1) := by decide +kernel
theorem dX7_begin_93 : decode cX7_begin 93 = .ok (.iconst (-1), 1) := by decide +kernel
theorem dX7_begin_94 : decode cX7_begin 94 = .ok (.iconst (-1), 1) := by decide +kernel
theorem dX7_begin_95 : decode cX7_begin 95 = .ok (.invokevirtual 62, 3) := by decide +kernel
theorem dX7_begin_98 : decode cX7_begin 98 = .ok (.iconst 0, 1) := by decide +kernel
theorem dX7_begin_99 : decode cX7_begin 99 = .ok (.istore_n 2, 1) := by decide +kernel
theorem dX7_begin_100 : decode cX7_begin 100 = .ok (.iload_n 2, 1) := by decide +kernel
theorem dX7_begin_101 : decode cX7_begin 101 = .ok (.iconst 5, 1) := by decide +kernel
theorem dX7_begin_102 : decode cX7_begin 102 = .ok (.if_icmp .ge 15, 3) := by decide +kernel
theorem dX7_begin_105 : decode cX7_begin 105 = .ok (.aload_n 0, 1) := by decide +kernel
theorem dX7_begin_106 : decode cX7_begin 106 = .ok (.iload_n 1, 1) := by decide +kernel
theorem dX7_begin_107 : decode cX7_begin 107 = .ok (.iload_n 2, 1) := by decide +kernel
theorem dX7_begin_108 : decode cX7_begin 108 = .ok (.invokevirtual 66, 3) := by decide +kernel
theorem dX7_begin_111 : decode cX7_begin 111 = .ok (.iinc 2 1, 3) := by decide +kernel
theorem dX7_begin_114 : decode cX7_begin 114 = .ok (.goto (-14), 3) := by decide +kernel
theorem dX7_begin_117 : decode cX7_begin 117 = .ok (.iinc 1 1, 3) := by decide +kernel
theorem dX7_begin_120 : decode cX7_begin 120 = .ok (.goto (-41), 3) := by decide +kernel
theorem dX7_begin_123 : decode cX7_begin 123 = .ok (.return_, 1) := by decide +kernel
theorem dX7_copyFrom_0 : decode cX7_copyFrom 0 = .ok (.aload_n 0, 1) := by decide +kernel
theorem dX7_copyFrom_1 : decode cX7_copyFrom 1 = .ok (.aload_n 1, 1) := by decide +kernel
theorem dX7_copyFrom_2 : decode cX7_copyFrom 2 = .ok (.getfield 40, 3) := by decide +kernel
theorem dX7_copyFrom_5 : decode cX7_copyFrom 5 = .ok (.putfield 40, 3) := by decide +kernel
theorem dX7_copyFrom_8 : decode cX7_copyFrom 8 = .ok (.aload_n 0, 1) := by decide +kernel
theorem dX7_copyFrom_9 : decode cX7_copyFrom 9 = .ok (.aload_n 1, 1) := by decide +kernel
theorem dX7_copyFrom_10 : decode cX7_copyFrom 10 = .ok (.getfield 49, 3) := by decide +kernel
theorem dX7_copyFrom_13 : decode cX7_copyFrom 13 = .ok (.putfield 49, 3) := by decide +kernel
theorem dX7_copyFrom_16 : decode cX7_copyFrom 16 = .ok (.aload_n 0, 1) := by decide +kernel
theorem dX7_copyFrom_17 : decode cX7_copyFrom 17 = .ok (.aload_n 1, 1) := by decide +kernel
theorem dX7_copyFrom_18 : decode cX7_copyFrom 18 = .ok (.getfield 50, 3) := by decide +kernel
theorem dX7_copyFrom_21 : decode cX7_copyFrom 21 = .ok (.putfield 50, 3) := by decide +kernel
theorem dX7_copyFrom_24 : decode cX7_copyFrom 24 = .ok (.aload_n 0, 1) := by decide +kernel
theorem dX7_copyFrom_25 : decode cX7_copyFrom 25 = .ok (.aload_n 1, 1) := by decide +kernel
theorem dX7_copyFrom_26 : decode cX7_copyFrom 26 = .ok (.getfield 53, 3) := by decide +kernel
theorem dX7_copyFrom_29 : decode cX7_copyFrom 29 = .ok (.putfield 53, 3) := by decide +kernel
theorem dX7_copyFrom_32 : decode cX7_copyFrom 32 = .ok (.aload_n 1, 1) := by decide +kernel
theorem dX7_copyFrom_33 : decode cX7_copyFrom 33 = .ok (.getfield 9, 3) := by decide +kernel
theorem dX7_copyFrom_36 : decode cX7_copyFrom 36 = .ok (.iconst 0, 1) := by decide +kernel
theorem dX7_copyFrom_37 : decode cX7_copyFrom 37 = .ok (.aload_n 0, 1) := by decide +kernel
theorem dX7_copyFrom_38 : decode cX7_copyFrom 38 = .ok (.getfield 9, 3) := by decide +kernel
theorem dX7_copyFrom_41 : decode cX7_copyFrom 41 = .ok (.iconst 0, 1) := by decide +kernel
theorem dX7_copyFrom_42 : decode cX7_copyFrom 42 = .ok (.bipush 8, 2) := by decide +kernel
theorem dX7_copyFrom_44 : decode cX7_copyFrom 44 = .ok (.invokestatic 70, 3) := by decide +kernel
theorem dX7_copyFrom_47 : decode cX7_copyFrom 47 = .ok (.aload_n 1, 1) := by decide +kernel
theorem dX7_copyFrom_48 : decode cX7_copyFrom 48 = .ok (.getfield 15, 3) := by decide +kernel
theorem dX7_copyFrom_51 : decode cX7_copyFrom 51 = .ok (.iconst 0, 1) := by decide +kernel
theorem dX7_copyFrom_52 : decode cX7_copyFrom 52 = .ok (.aload_n 0, 1) := by decide +kernel
theorem dX7_copyFrom_53 : decode cX7_copyFrom 53 = .ok (.getfield 15, 3) := by decide +kernel
theorem dX7_copyFrom_56 : decode cX7_copyFrom 56 = .ok (.iconst 0, 1) := by decide +kernel
theorem dX7_copyFrom_57 : decode cX7_copyFrom 57 = .ok (.iconst 5, 1) := by decide +kernel
theorem dX7_copyFrom_58 : decode cX7_copyFrom 58 = .ok (.invokestatic 70, 3) := by decide +kernel
theorem dX7_copyFrom_61 : decode cX7_copyFrom 61 = .ok (.aload_n 1, 1) := by decide +kernel
theorem dX7_copyFrom_62 : decode cX7_copyFrom 62 = .ok (.getfield 18, 3) := by decide +kernel
theorem dX7_copyFrom_65 : decode cX7_copyFrom 65 = .ok (.iconst 0, 1) := by decide +kernel
theorem dX7_copyFrom_66 : decode cX7_copyFrom 66 = .ok (.aload_n 0, 1) := by decide +kernel
theorem dX7_copyFrom_67 : decode cX7_copyFrom 67 = .ok (.getfield 18, 3) := by decide +kernel
theorem dX7_copyFrom_70 : decode cX7_copyFrom 70 = .ok (.iconst 0, 1) := by decide +kernel
theorem dX7_copyFrom_71 : decode cX7_copyFrom 71 = .ok (.iconst 5, 1) := by decide +kernel
theorem dX7_copyFrom_72 : decode cX7_copyFrom 72 = .ok (.invokestatic 70, 3) := by decide +kernel
theorem dX7_copyFrom_75 : decode cX7_copyFrom 75 = .ok (.aload_n 1, 1) := by decide +kernel
theorem dX7_copyFrom_76 : decode cX7_copyFrom 76 = .ok (.getfield 21, 3) := by decide +kernel
theorem dX7_copyFrom_79 : decode cX7_copyFrom 79 = .ok (.iconst 0, 1) := by decide +kernel
theorem dX7_copyFrom_80 : decode cX7_copyFrom 80 = .ok (.aload_n 0, 1) := by decide +kernel
theorem dX7_copyFrom_81 : decode cX7_copyFrom 81 = .ok (.getfield 21, 3) := by decide +kernel
theorem dX7_copyFrom_84 : decode cX7_copyFrom 84 = .ok (.iconst 0, 1) := by decide +kernel
theorem dX7_copyFrom_85 : decode cX7_copyFrom 85 = .ok (.iconst 5, 1) := by decide +kernel
theorem dX7_copyFrom_86 : decode cX7_copyFrom 86 = .ok (.invokestatic 70, 3) := by decide +kernel
theorem dX7_copyFrom_89 : decode cX7_copyFrom 89 = .ok (.aload_n 1, 1) := by decide +kernel
theorem dX7_copyFrom_90 : decode cX7_copyFrom 90 = .ok (.getfield 24, 3) := by decide +kernel
theorem dX7_copyFrom_93 : decode cX7_copyFrom 93 = .ok (.iconst 0, 1) := by decide +kernel
theorem dX7_copyFrom_94 : decode cX7_copyFrom 94 = .ok (.aload_n 0, 1) := by decide +kernel
theorem dX7_copyFrom_95 : decode cX7_copyFrom 95 = .ok (.getfield 24, 3) := by decide +kernel
theorem dX7_copyFrom_98 : decode cX7_copyFrom 98 = .ok (.iconst 0, 1) := by decide +kernel
theorem dX7_copyFrom_99 : decode cX7_copyFrom 99 = .ok (.iconst 4, 1) := by decide +kernel
theorem dX7_copyFrom_100 : decode cX7_copyFrom 100 = .ok (.invokestatic 70, 3) := by decide +kernel
theorem dX7_copyFrom_103 : decode cX7_copyFrom 103 = .ok (.aload_n 1, 1) := by decide +kernel
theorem dX7_copyFrom_104 : decode cX7_copyFrom 104 = .ok (.getfield 27, 3) := by decide +kernel
theorem dX7_copyFrom_107 : decode cX7_copyFrom 107 = .ok (.iconst 0, 1) := by decide +kernel
theorem dX7_copyFrom_108 : decode cX7_copyFrom 108 = .ok (.aload_n 0, 1) := by decide +kernel
theorem dX7_copyFrom_109 : decode cX7_copyFrom 109 = .ok (.getfield 27, 3) := by decide +kernel
theorem dX7_copyFrom_112 : decode cX7_copyFrom 112 = .ok (.iconst 0, 1) := by decide +kernel
theorem dX7_copyFrom_113 : decode cX7_copyFrom 113 = .ok (.iconst 4, 1) := by decide +kernel
theorem dX7_copyFrom_114 : decode cX7_copyFrom 114 = .ok (.invokestatic 70, 3) := by decide +kernel
theorem dX7_copyFrom_117 : decode cX7_copyFrom 117 = .ok (.aload_n 1, 1) := by decide +kernel
theorem dX7_copyFrom_118 : decode cX7_copyFrom 118 = .ok (.getfield 30, 3) := by decide +kernel
theorem dX7_copyFrom_121 : decode cX7_copyFrom 121 = .ok (.iconst 0, 1) := by decide +kernel
theorem dX7_copyFrom_122 : decode cX7_copyFrom 122 = .ok (.aload_n 0, 1) := by decide +kernel
theorem dX7_copyFrom_123 : decode cX7_copyFrom 123 = .ok (.getfield 30, 3) := by decide +kernel
theorem dX7_copyFrom_126 : decode cX7_copyFrom 126 = .ok (.iconst 0, 1) := by decide +kernel
theorem dX7_copyFrom_127 : decode cX7_copyFrom 127 = .ok (.iconst 4, 1) := by decide +kernel
theorem dX7_copyFrom_128 : decode cX7_copyFrom 128 = .ok (.invokestatic 70, 3) := by decide +kernel
theorem dX7_copyFrom_131 : decode cX7_copyFrom 131 = .ok (.aload_n 1, 1) := by decide +kernel
theorem dX7_copyFrom_132 : decode cX7_copyFrom 132 = .ok (.getfield 33, 3) := by decide +kernel
theorem dX7_copyFrom_135 : decode cX7_copyFrom 135 = .ok (.iconst 0, 1) := by decide +kernel
theorem dX7_copyFrom_136 : decode cX7_copyFrom 136 = .ok (.aload_n 0, 1) := by decide +kernel
theorem dX7_copyFrom_137 : decode cX7_copyFrom 137 = .ok (.getfield 33, 3) := by decide +kernel
theorem dX7_copyFrom_140 : decode cX7_copyFrom 140 = .ok (.iconst 0, 1) := by decide +kernel
theorem dX7_copyFrom_141 : decode cX7_copyFrom 141 = .ok (.bipush 20, 2) := by decide +kernel
theorem dX7_copyFrom_143 : decode cX7_copyFrom 143 = .ok (.invokestatic 70, 3) := by decide +kernel
theorem dX7_copyFrom_146 : decode cX7_copyFrom 146 = .ok (.return_, 1) := by decide +kernel
theorem dX7_lastOf_0 : decode cX7_lastOf 0 = .ok (.aload_n 0, 1) := by decide +kernel
theorem dX7_lastOf_1 : decode cX7_lastOf 1 = .ok (.getfield 33, 3) := by decide +kernel
theorem dX7_lastOf_4 : decode cX7_lastOf 4 = .ok (.iload_n 1, 1) := by decide +kernel
theorem dX7_lastOf_5 : decode cX7_lastOf 5 = .ok (.iconst 5, 1) := by decide +kernel
theorem dX7_lastOf_6 : decode cX7_lastOf 6 = .ok (.imul, 1) := by decide +kernel
theorem dX7_lastOf_7 : decode cX7_lastOf 7 = .ok (.iload_n 2, 1) := by decide +kernel
theorem dX7_lastOf_8 : decode cX7_lastOf 8 = .ok (.iadd, 1) := by decide +kernel
theorem dX7_lastOf_9 : decode cX7_lastOf 9 = .ok (.iaload, 1) := by decide +kernel
theorem dX7_lastOf_10 : decode cX7_lastOf 10 = .ok (.ireturn, 1) := by decide +kernel
theorem dX7_taught_0 : decode cX7_taught 0 = .ok (.aload_n 0, 1) := by decide +kernel
theorem dX7_taught_1 : decode cX7_taught 1 = .ok (.getfield 33, 3) := by decide +kernel
theorem dX7_taught_4 : decode cX7_taught 4 = .ok (.iload_n 1, 1) := by decide +kernel
theorem dX7_taught_5 : decode cX7_taught 5 = .ok (.iconst 5, 1) := by decide +kernel
theorem dX7_taught_6 : decode cX7_taught 6 = .ok (.imul, 1) := by decide +kernel
theorem dX7_taught_7 : decode cX7_taught 7 = .ok (.iload_n 2, 1) := by decide +kernel
theorem dX7_taught_8 : decode cX7_taught 8 = .ok (.iadd, 1) := by decide +kernel
theorem dX7_taught_9 : decode cX7_taught 9 = .ok (.aload_n 0, 1) := by decide +kernel
theorem dX7_taught_10 : decode cX7_taught 10 = .ok (.getfield 18, 3) := by decide +kernel
theorem dX7_taught_13 : decode cX7_taught 13 = .ok (.iload_n 2, 1) := by decide +kernel
theorem dX7_taught_14 : decode cX7_taught 14 = .ok (.iaload, 1) := by decide +kernel
theorem dX7_taught_15 : decode cX7_taught 15 = .ok (.iastore, 1) := by decide +kernel
theorem dX7_taught_16 : decode cX7_taught 16 = .ok (.return_, 1) := by decide +kernel
theorem dX7_isKept_0 : decode cX7_isKept 0 = .ok (.iload_n 1, 1) := by decide +kernel
theorem dX7_isKept_1 : decode cX7_isKept 1 = .ok (.ifCond .lt 15, 3) := by decide +kernel
theorem dX7_isKept_4 : decode cX7_isKept 4 = .ok (.iload_n 1, 1) := by decide +kernel
theorem dX7_isKept_5 : decode cX7_isKept 5 = .ok (.aload_n 0, 1) := by decide +kernel
theorem dX7_isKept_6 : decode cX7_isKept 6 = .ok (.getfield 53, 3) := by decide +kernel
theorem dX7_isKept_9 : decode cX7_isKept 9 = .ok (.if_icmp .ge 7, 3) := by decide +kernel
theorem dX7_isKept_12 : decode cX7_isKept 12 = .ok (.iconst 1, 1) := by decide +kernel
theorem dX7_isKept_13 : decode cX7_isKept 13 = .ok (.goto 4, 3) := by decide +kernel
theorem dX7_isKept_16 : decode cX7_isKept 16 = .ok (.iconst 0, 1) := by decide +kernel
theorem dX7_isKept_17 : decode cX7_isKept 17 = .ok (.ireturn, 1) := by decide +kernel
theorem dX7_isNoisy_0 : decode cX7_isNoisy 0 = .ok (.aload_n 0, 1) := by decide +kernel
theorem dX7_isNoisy_1 : decode cX7_isNoisy 1 = .ok (.getfield 50, 3) := by decide +kernel
theorem dX7_isNoisy_4 : decode cX7_isNoisy 4 = .ok (.iload_n 1, 1) := by decide +kernel
theorem dX7_isNoisy_5 : decode cX7_isNoisy 5 = .ok (.ishr, 1) := by decide +kernel
theorem dX7_isNoisy_6 : decode cX7_isNoisy 6 = .ok (.iconst 1, 1) := by decide +kernel
theorem dX7_isNoisy_7 : decode cX7_isNoisy 7 = .ok (.iand, 1) := by decide +kernel
theorem dX7_isNoisy_8 : decode cX7_isNoisy 8 = .ok (.iconst 1, 1) := by decide +kernel
theorem dX7_isNoisy_9 : decode cX7_isNoisy 9 = .ok (.if_icmp .ne 7, 3) := by decide +kernel
theorem dX7_isNoisy_12 : decode cX7_isNoisy 12 = .ok (.iconst 1, 1) := by decide +kernel
theorem dX7_isNoisy_13 : decode cX7_isNoisy 13 = .ok (.goto 4, 3) := by decide +kernel
theorem dX7_isNoisy_16 : decode cX7_isNoisy 16 = .ok (.iconst 0, 1) := by decide +kernel
theorem dX7_isNoisy_17 : decode cX7_isNoisy 17 = .ok (.ireturn, 1) := by decide +kernel
theorem dX7_turnNoise_0 : decode cX7_turnNoise 0 = .ok (.aload_n 0, 1) := by decide +kernel
theorem dX7_turnNoise_1 : decode cX7_turnNoise 1 = .ok (.dup, 1) := by decide +kernel
theorem dX7_turnNoise_2 : decode cX7_turnNoise 2 = .ok (.getfield 50, 3) := by decide +kernel
theorem dX7_turnNoise_5 : decode cX7_turnNoise 5 = .ok (.iconst 1, 1) := by decide +kernel
theorem dX7_turnNoise_6 : decode cX7_turnNoise 6 = .ok (.iload_n 1, 1) := by decide +kernel
theorem dX7_turnNoise_7 : decode cX7_turnNoise 7 = .ok (.ishl, 1) := by decide +kernel
theorem dX7_turnNoise_8 : decode cX7_turnNoise 8 = .ok (.ixor, 1) := by decide +kernel
theorem dX7_turnNoise_9 : decode cX7_turnNoise 9 = .ok (.putfield 50, 3) := by decide +kernel
theorem dX7_turnNoise_12 : decode cX7_turnNoise 12 = .ok (.return_, 1) := by decide +kernel
theorem dX7_allOpenings_0 : decode cX7_allOpenings 0 = .ok (.iconst 0, 1) := by decide +kernel
theorem dX7_allOpenings_1 : decode cX7_allOpenings 1 = .ok (.istore_n 1, 1) := by decide +kernel
theorem dX7_allOpenings_2 : decode cX7_allOpenings 2 = .ok (.iconst 0, 1) := by decide +kernel
theorem dX7_allOpenings_3 : decode cX7_allOpenings 3 = .ok (.istore_n 2, 1) := by decide +kernel
theorem dX7_allOpenings_4 : decode cX7_allOpenings 4 = .ok (.iload_n 2, 1) := by decide +kernel
theorem dX7_allOpenings_5 : decode cX7_allOpenings 5 = .ok (.aload_n 0, 1) := by decide +kernel
theorem dX7_allOpenings_6 : decode cX7_allOpenings 6 = .ok (.getfield 36, 3) := by decide +kernel
theorem dX7_allOpenings_9 : decode cX7_allOpenings 9 = .ok (.getfield 76, 3) := by decide +kernel
theorem dX7_allOpenings_12 : decode cX7_allOpenings 12 = .ok (.if_icmp .ge 18, 3) := by decide +kernel
theorem dX7_allOpenings_15 : decode cX7_allOpenings 15 = .ok (.iload_n 1, 1) := by decide +kernel
theorem dX7_allOpenings_16 : decode cX7_allOpenings 16 = .ok (.aload_n 0, 1) := by decide +kernel
theorem dX7_allOpenings_17 : decode cX7_allOpenings 17 = .ok (.getfield 24, 3) := by decide +kernel
theorem dX7_allOpenings_20 : decode cX7_allOpenings 20 = .ok (.iload_n 2, 1) := by decide +kernel
theorem dX7_allOpenings_21 : decode cX7_allOpenings 21 = .ok (.iaload, 1) := by decide +kernel
theorem dX7_allOpenings_22 : decode cX7_allOpenings 22 = .ok (.iadd, 1) := by decide +kernel
theorem dX7_allOpenings_23 : decode cX7_allOpenings 23 = .ok (.istore_n 1, 1) := by decide +kernel
theorem dX7_allOpenings_24 : decode cX7_allOpenings 24 = .ok (.iinc 2 1, 3) := by decide +kernel
theorem dX7_allOpenings_27 : decode cX7_allOpenings 27 = .ok (.goto (-23), 3) := by decide +kernel
theorem dX7_allOpenings_30 : decode cX7_allOpenings 30 = .ok (.iload_n 1, 1) := by decide +kernel
theorem dX7_allOpenings_31 : decode cX7_allOpenings 31 = .ok (.ireturn, 1) := by decide +kernel
theorem dX7_codeAhead_0 : decode cX7_codeAhead 0 = .ok (.aload_n 0, 1) := by decide +kernel
theorem dX7_codeAhead_1 : decode cX7_codeAhead 1 = .ok (.getfield 36, 3) := by decide +kernel
theorem dX7_codeAhead_4 : decode cX7_codeAhead 4 = .ok (.getfield 79, 3) := by decide +kernel
theorem dX7_codeAhead_7 : decode cX7_codeAhead 7 = .ok (.iload_n 1, 1) := by decide +kernel
theorem dX7_codeAhead_8 : decode cX7_codeAhead 8 = .ok (.iaload, 1) := by decide +kernel
theorem dX7_codeAhead_9 : decode cX7_codeAhead 9 = .ok (.aload_n 0, 1) := by decide +kernel
theorem dX7_codeAhead_10 : decode cX7_codeAhead 10 = .ok (.getfield 18, 3) := by decide +kernel
theorem dX7_codeAhead_13 : decode cX7_codeAhead 13 = .ok (.iload_n 1, 1) := by decide +kernel
theorem dX7_codeAhead_14 : decode cX7_codeAhead 14 = .ok (.iaload, 1) := by decide +kernel
theorem dX7_codeAhead_15 : decode cX7_codeAhead 15 = .ok (.iload_n 2, 1) := by decide +kernel
theorem dX7_codeAhead_16 : decode cX7_codeAhead 16 = .ok (.iadd, 1) := by decide +kernel
theorem dX7_codeAhead_17 : decode cX7_codeAhead 17 = .ok (.sipush 10000, 3) := by decide +kernel
theorem dX7_codeAhead_20 : decode cX7_codeAhead 20 = .ok (.irem, 1) := by decide +kernel
theorem dX7_codeAhead_21 : decode cX7_codeAhead 21 = .ok (.invokestatic 82, 3) := by decide +kernel
theorem dX7_codeAhead_24 : decode cX7_codeAhead 24 = .ok (.ireturn, 1) := by decide +kernel
theorem dX7_pressedFrom_0 : decode cX7_pressedFrom 0 = .ok (.aload_n 0, 1) := by decide +kernel
theorem dX7_pressedFrom_1 : decode cX7_pressedFrom 1 = .ok (.getfield 21, 3) := by decide +kernel
theorem dX7_pressedFrom_4 : decode cX7_pressedFrom 4 = .ok (.iload_n 1, 1) := by decide +kernel
theorem dX7_pressedFrom_5 : decode cX7_pressedFrom 5 = .ok (.iaload, 1) := by decide +kernel
theorem dX7_pressedFrom_6 : decode cX7_pressedFrom 6 = .ok (.ifCond .gt 5, 3) := by decide +kernel
theorem dX7_pressedFrom_9 : decode cX7_pressedFrom 9 = .ok (.iconst 0, 1) := by decide +kernel
theorem dX7_pressedFrom_10 : decode cX7_pressedFrom 10 = .ok (.ireturn, 1) := by decide +kernel
theorem dX7_pressedFrom_11 : decode cX7_pressedFrom 11 = .ok (.aload_n 0, 1) := by decide +kernel
theorem dX7_pressedFrom_12 : decode cX7_pressedFrom 12 = .ok (.getfield 21, 3) := by decide +kernel
theorem dX7_pressedFrom_15 : decode cX7_pressedFrom 15 = .ok (.iload_n 1, 1) := by decide +kernel
theorem dX7_pressedFrom_16 : decode cX7_pressedFrom 16 = .ok (.dup2, 1) := by decide +kernel
theorem dX7_pressedFrom_17 : decode cX7_pressedFrom 17 = .ok (.iaload, 1) := by decide +kernel
theorem dX7_pressedFrom_18 : decode cX7_pressedFrom 18 = .ok (.iconst 1, 1) := by decide +kernel
theorem dX7_pressedFrom_19 : decode cX7_pressedFrom 19 = .ok (.isub, 1) := by decide +kernel
theorem dX7_pressedFrom_20 : decode cX7_pressedFrom 20 = .ok (.iastore, 1) := by decide +kernel
theorem dX7_pressedFrom_21 : decode cX7_pressedFrom 21 = .ok (.aload_n 0, 1) := by decide +kernel
theorem dX7_pressedFrom_22 : decode cX7_pressedFrom 22 = .ok (.iload_n 1, 1) := by decide +kernel
theorem dX7_pressedFrom_23 : decode cX7_pressedFrom 23 = .ok (.invokevirtual 86, 3) := by decide +kernel
theorem dX7_pressedFrom_26 : decode cX7_pressedFrom 26 = .ok (.istore_n 3, 1) := by decide +kernel
theorem dX7_pressedFrom_27 : decode cX7_pressedFrom 27 = .ok (.iconst 0, 1) := by decide +kernel
theorem dX7_pressedFrom_28 : decode cX7_pressedFrom 28 = .ok (.istore 4, 2) := by decide +kernel
theorem dX7_pressedFrom_30 : decode cX7_pressedFrom 30 = .ok (.iconst 0, 1) := by decide +kernel
theorem dX7_pressedFrom_31 : decode cX7_pressedFrom 31 = .ok (.istore 5, 2) := by decide +kernel
theorem dX7_pressedFrom_33 : decode cX7_pressedFrom 33 = .ok (.iload 5, 2) := by decide +kernel
theorem dX7_pressedFrom_35 : decode cX7_pressedFrom 35 = .ok (.aload_n 0, 1) := by decide +kernel
theorem dX7_pressedFrom_36 : decode cX7_pressedFrom 36 = .ok (.getfield 36, 3) := by decide +kernel
theorem dX7_pressedFrom_39 : decode cX7_pressedFrom 39 = .ok (.iload_n 1, 1) := by decide +kernel
theorem dX7_pressedFrom_40 : decode cX7_pressedFrom 40 = .ok (.invokevirtual 90, 3) := by decide +kernel
theorem dX7_pressedFrom_43 : decode cX7_pressedFrom 43 = .ok (.if_icmp .ge 37, 3) := by decide +kernel
theorem dX7_pressedFrom_46 : decode cX7_pressedFrom 46 = .ok (.aload_n 0, 1) := by decide +kernel
theorem dX7_pressedFrom_47 : decode cX7_pressedFrom 47 = .ok (.iload_n 1, 1) := by decide +kernel
theorem dX7_pressedFrom_48 : decode cX7_pressedFrom 48 = .ok (.invokevirtual 93, 3) := by decide +kernel
theorem dX7_pressedFrom_51 : decode cX7_pressedFrom 51 = .ok (.istore 6, 2) := by decide +kernel
theorem dX7_pressedFrom_53 : decode cX7_pressedFrom 53 = .ok (.iload 4, 2) := by decide +kernel
theorem dX7_pressedFrom_55 : decode cX7_pressedFrom 55 = .ok (.aload_n 0, 1) := by decide +kernel
theorem dX7_pressedFrom_56 : decode cX7_pressedFrom 56 = .ok (.iload 6, 2) := by decide +kernel
theorem dX7_pressedFrom_58 : decode cX7_pressedFrom 58 = .ok (.iload_n 2, 1) := by decide +kernel
theorem dX7_pressedFrom_59 : decode cX7_pressedFrom 59 = .ok (.iload_n 3, 1) := by decide +kernel
theorem dX7_pressedFrom_60 : decode cX7_pressedFrom 60 = .ok (.invokevirtual 96, 3) := by decide +kernel
theorem dX7_pressedFrom_63 : decode cX7_pressedFrom 63 = .ok (.ior, 1) := by decide +kernel
theorem dX7_pressedFrom_64 : decode cX7_pressedFrom 64 = .ok (.istore 4, 2) := by decide +kernel
theorem dX7_pressedFrom_66 : decode cX7_pressedFrom 66 = .ok (.aload_n 0, 1) := by decide +kernel
theorem dX7_pressedFrom_67 : decode cX7_pressedFrom 67 = .ok (.iload 6, 2) := by decide +kernel
theorem dX7_pressedFrom_69 : decode cX7_pressedFrom 69 = .ok (.iload_n 2, 1) := by decide +kernel
theorem dX7_pressedFrom_70 : decode cX7_pressedFrom 70 = .ok (.iload_n 3, 1) := by decide +kernel
theorem dX7_pressedFrom_71 : decode cX7_pressedFrom 71 = .ok (.invokevirtual 100, 3) := by decide +kernel
theorem dX7_pressedFrom_74 : decode cX7_pressedFrom 74 = .ok (.iinc 5 1, 3) := by decide +kernel
theorem dX7_pressedFrom_77 : decode cX7_pressedFrom 77 = .ok (.goto (-44), 3) := by decide +kernel
theorem dX7_pressedFrom_80 : decode cX7_pressedFrom 80 = .ok (.iload 4, 2) := by decide +kernel
theorem dX7_pressedFrom_82 : decode cX7_pressedFrom 82 = .ok (.ireturn, 1) := by decide +kernel
theorem dX7_pressedUnheard_0 : decode cX7_pressedUnheard 0 = .ok (.aload_n 0, 1) := by decide +kernel
theorem dX7_pressedUnheard_1 : decode cX7_pressedUnheard 1 = .ok (.getfield 18, 3) := by decide +kernel
theorem dX7_pressedUnheard_4 : decode cX7_pressedUnheard 4 = .ok (.iload_n 1, 1) := by decide +kernel
theorem dX7_pressedUnheard_5 : decode cX7_pressedUnheard 5 = .ok (.aload_n 0, 1) := by decide +kernel
theorem dX7_pressedUnheard_6 : decode cX7_pressedUnheard 6 = .ok (.getfield 18, 3) := by decide +kernel
theorem dX7_pressedUnheard_9 : decode cX7_pressedUnheard 9 = .ok (.iload_n 1, 1) := by decide +kernel
theorem dX7_pressedUnheard_10 : decode cX7_pressedUnheard 10 = .ok (.iaload, 1) := by decide +kernel
theorem dX7_pressedUnheard_11 : decode cX7_pressedUnheard 11 = .ok (.iload_n 2, 1) := by decide +kernel
theorem dX7_pressedUnheard_12 : decode cX7_pressedUnheard 12 = .ok (.aload_n 0, 1) := by decide +kernel
theorem dX7_pressedUnheard_13 : decode cX7_pressedUnheard 13 = .ok (.getfield 36, 3) := by decide +kernel
theorem dX7_pressedUnheard_16 : decode cX7_pressedUnheard 16 = .ok (.iload_n 1, 1) := by decide +kernel
theorem dX7_pressedUnheard_17 : decode cX7_pressedUnheard 17 = .ok (.invokevirtual 90, 3) := by decide +kernel
theorem dX7_pressedUnheard_20 : decode cX7_pressedUnheard 20 = .ok (.imul, 1) := by decide +kernel
theorem dX7_pressedUnheard_21 : decode cX7_pressedUnheard 21 = .ok (.aload_n 0, 1) := by decide +kernel
theorem dX7_pressedUnheard_22 : decode cX7_pressedUnheard 22 = .ok (.getfield 36, 3) := by decide +kernel
theorem dX7_pressedUnheard_25 : decode cX7_pressedUnheard 25 = .ok (.iload_n 1, 1) := by decide +kernel
theorem dX7_pressedUnheard_26 : decode cX7_pressedUnheard 26 = .ok (.invokevirtual 103, 3) := by decide +kernel
theorem dX7_pressedUnheard_29 : decode cX7_pressedUnheard 29 = .ok (.imul, 1) := by decide +kernel
theorem dX7_pressedUnheard_30 : decode cX7_pressedUnheard 30 = .ok (.iadd, 1) := by decide +kernel
theorem dX7_pressedUnheard_31 : decode cX7_pressedUnheard 31 = .ok (.sipush 10000, 3) := by decide +kernel
theorem dX7_pressedUnheard_34 : decode cX7_pressedUnheard 34 = .ok (.irem, 1) := by decide +kernel
theorem dX7_pressedUnheard_35 : decode cX7_pressedUnheard 35 = .ok (.iastore, 1) := by decide +kernel
theorem dX7_pressedUnheard_36 : decode cX7_pressedUnheard 36 = .ok (.return_, 1) := by decide +kernel
theorem dX7_opensBeside_0 : decode cX7_opensBeside 0 = .ok (.iconst 0, 1) := by decide +kernel
theorem dX7_opensBeside_1 : decode cX7_opensBeside 1 = .ok (.istore_n 3, 1) := by decide +kernel
theorem dX7_opensBeside_2 : decode cX7_opensBeside 2 = .ok (.iconst 0, 1) := by decide +kernel
theorem dX7_opensBeside_3 : decode cX7_opensBeside 3 = .ok (.istore 4, 2) := by decide +kernel
theorem dX7_opensBeside_5 : decode cX7_opensBeside 5 = .ok (.iload 4, 2) := by decide +kernel
theorem dX7_opensBeside_7 : decode cX7_opensBeside 7 = .ok (.aload_n 0, 1) := by decide +kernel
theorem dX7_opensBeside_8 : decode cX7_opensBeside 8 = .ok (.getfield 36, 3) := by decide +kernel
theorem dX7_opensBeside_11 : decode cX7_opensBeside 11 = .ok (.iload_n 2, 1) := by decide +kernel
theorem dX7_opensBeside_12 : decode cX7_opensBeside 12 = .ok (.invokevirtual 90, 3) := by decide +kernel
theorem dX7_opensBeside_15 : decode cX7_opensBeside 15 = .ok (.if_icmp .ge 22, 3) := by decide +kernel
theorem dX7_opensBeside_18 : decode cX7_opensBeside 18 = .ok (.iload_n 3, 1) := by decide +kernel
theorem dX7_opensBeside_19 : decode cX7_opensBeside 19 = .ok (.aload_n 0, 1) := by decide +kernel
theorem dX7_opensBeside_20 : decode cX7_opensBeside 20 = .ok (.iload_n 1, 1) := by decide +kernel
theorem dX7_opensBeside_21 : decode cX7_opensBeside 21 = .ok (.aload_n 0, 1) := by decide +kernel
theorem dX7_opensBeside_22 : decode cX7_opensBeside 22 = .ok (.iload_n 2, 1) := by decide +kernel
theorem dX7_opensBeside_23 : decode cX7_opensBeside 23 = .ok (.invokevirtual 93, 3) := by decide +kernel
theorem dX7_opensBeside_26 : decode cX7_opensBeside 26 = .ok (.invokevirtual 106, 3) := by decide +kernel
theorem dX7_opensBeside_29 : decode cX7_opensBeside 29 = .ok (.ior, 1) := by decide +kernel
theorem dX7_opensBeside_30 : decode cX7_opensBeside 30 = .ok (.istore_n 3, 1) := by decide +kernel
theorem dX7_opensBeside_31 : decode cX7_opensBeside 31 = .ok (.iinc 4 1, 3) := by decide +kernel
theorem dX7_opensBeside_34 : decode cX7_opensBeside 34 = .ok (.goto (-29), 3) := by decide +kernel
theorem dX7_opensBeside_37 : decode cX7_opensBeside 37 = .ok (.iload_n 3, 1) := by decide +kernel
theorem dX7_opensBeside_38 : decode cX7_opensBeside 38 = .ok (.ireturn, 1) := by decide +kernel
theorem dX7_sentAgain_0 : decode cX7_sentAgain 0 = .ok (.aload_n 0, 1) := by decide +kernel
theorem dX7_sentAgain_1 : decode cX7_sentAgain 1 = .ok (.aload_n 0, 1) := by decide +kernel
theorem dX7_sentAgain_2 : decode cX7_sentAgain 2 = .ok (.getfield 9, 3) := by decide +kernel
theorem dX7_sentAgain_5 : decode cX7_sentAgain 5 = .ok (.iload_n 1, 1) := by decide +kernel
theorem dX7_sentAgain_6 : decode cX7_sentAgain 6 = .ok (.iaload, 1) := by decide +kernel
theorem dX7_sentAgain_7 : decode cX7_sentAgain 7 = .ok (.aload_n 0, 1) := by decide +kernel
theorem dX7_sentAgain_8 : decode cX7_sentAgain 8 = .ok (.getfield 49, 3) := by decide +kernel
theorem dX7_sentAgain_11 : decode cX7_sentAgain 11 = .ok (.aload_n 0, 1) := by decide +kernel
theorem dX7_sentAgain_12 : decode cX7_sentAgain 12 = .ok (.getfield 36, 3) := by decide +kernel
theorem dX7_sentAgain_15 : decode cX7_sentAgain 15 = .ok (.getfield 110, 3) := by decide +kernel
theorem dX7_sentAgain_18 : decode cX7_sentAgain 18 = .ok (.invokevirtual 96, 3) := by decide +kernel
theorem dX7_sentAgain_21 : decode cX7_sentAgain 21 = .ok (.ireturn, 1) := by decide +kernel
theorem dX7_gatesInReach_0 : decode cX7_gatesInReach 0 = .ok (.iconst 0, 1) := by decide +kernel
theorem dX7_gatesInReach_1 : decode cX7_gatesInReach 1 = .ok (.istore_n 1, 1) := by decide +kernel
theorem dX7_gatesInReach_2 : decode cX7_gatesInReach 2 = .ok (.iconst 0, 1) := by decide +kernel
theorem dX7_gatesInReach_3 : decode cX7_gatesInReach 3 = .ok (.istore_n 2, 1) := by decide +kernel
theorem dX7_gatesInReach_4 : decode cX7_gatesInReach 4 = .ok (.iload_n 2, 1) := by decide +kernel
theorem dX7_gatesInReach_5 : decode cX7_gatesInReach 5 = .ok (.aload_n 0, 1) := by decide +kernel
theorem dX7_gatesInReach_6 : decode cX7_gatesInReach 6 = .ok (.getfield 36, 3) := by decide +kernel
theorem dX7_gatesInReach_9 : decode cX7_gatesInReach 9 = .ok (.getfield 76, 3) := by decide +kernel
theorem dX7_gatesInReach_12 : decode cX7_gatesInReach 12 = .ok (.if_icmp .ge 34, 3) := by decide +kernel
theorem dX7_gatesInReach_15 : decode cX7_gatesInReach 15 = .ok (.aload_n 0, 1) := by decide +kernel
theorem dX7_gatesInReach_16 : decode cX7_gatesInReach 16 = .ok (.iload_n 2, 1) := by decide +kernel
theorem dX7_gatesInReach_17 : decode cX7_gatesInReach 17 = .ok (.aload_n 0, 1) := by decide +kernel
theorem dX7_gatesInReach_18 : decode cX7_gatesInReach 18 = .ok (.getfield 49, 3) := by decide +kernel
theorem dX7_gatesInReach_21 : decode cX7_gatesInReach 21 = .ok (.aload_n 0, 1) := by decide +kernel
theorem dX7_gatesInReach_22 : decode cX7_gatesInReach 22 = .ok (.getfield 36, 3) := by decide +kernel
theorem dX7_gatesInReach_25 : decode cX7_gatesInReach 25 = .ok (.getfield 110, 3) := by decide +kernel
theorem dX7_gatesInReach_28 : decode cX7_gatesInReach 28 = .ok (.invokevirtual 113, 3) := by decide +kernel
theorem dX7_gatesInReach_31 : decode cX7_gatesInReach 31 = .ok (.ifCond .eq 9, 3) := by decide +kernel
theorem dX7_gatesInReach_34 : decode cX7_gatesInReach 34 = .ok (.iload_n 1, 1) := by decide +kernel
theorem dX7_gatesInReach_35 : decode cX7_gatesInReach 35 = .ok (.iconst 1, 1) := by decide +kernel
theorem dX7_gatesInReach_36 : decode cX7_gatesInReach 36 = .ok (.iload_n 2, 1) := by decide +kernel
theorem dX7_gatesInReach_37 : decode cX7_gatesInReach 37 = .ok (.ishl, 1) := by decide +kernel
theorem dX7_gatesInReach_38 : decode cX7_gatesInReach 38 = .ok (.ior, 1) := by decide +kernel
theorem dX7_gatesInReach_39 : decode cX7_gatesInReach 39 = .ok (.istore_n 1, 1) := by decide +kernel
theorem dX7_gatesInReach_40 : decode cX7_gatesInReach 40 = .ok (.iinc 2 1, 3) := by decide +kernel
theorem dX7_gatesInReach_43 : decode cX7_gatesInReach 43 = .ok (.goto (-39), 3) := by decide +kernel
theorem dX7_gatesInReach_46 : decode cX7_gatesInReach 46 = .ok (.iload_n 1, 1) := by decide +kernel
theorem dX7_gatesInReach_47 : decode cX7_gatesInReach 47 = .ok (.ireturn, 1) := by decide +kernel
theorem dX7_rangeNow_0 : decode cX7_rangeNow 0 = .ok (.aload_n 0, 1) := by decide +kernel
theorem dX7_rangeNow_1 : decode cX7_rangeNow 1 = .ok (.getfield 36, 3) := by decide +kernel
theorem dX7_rangeNow_4 : decode cX7_rangeNow 4 = .ok (.getfield 117, 3) := by decide +kernel
theorem dX7_rangeNow_7 : decode cX7_rangeNow 7 = .ok (.iload_n 1, 1) := by decide +kernel
theorem dX7_rangeNow_8 : decode cX7_rangeNow 8 = .ok (.iaload, 1) := by decide +kernel
theorem dX7_rangeNow_9 : decode cX7_rangeNow 9 = .ok (.iconst 2, 1) := by decide +kernel
theorem dX7_rangeNow_10 : decode cX7_rangeNow 10 = .ok (.if_icmp .ne 18, 3) := by decide +kernel
theorem dX7_rangeNow_13 : decode cX7_rangeNow 13 = .ok (.aload_n 0, 1) := by decide +kernel
theorem dX7_rangeNow_14 : decode cX7_rangeNow 14 = .ok (.getfield 21, 3) := by decide +kernel
theorem dX7_rangeNow_17 : decode cX7_rangeNow 17 = .ok (.iload_n 1, 1) := by decide +kernel
theorem dX7_rangeNow_18 : decode cX7_rangeNow 18 = .ok (.iaload, 1) := by decide +kernel
theorem dX7_rangeNow_19 : decode cX7_rangeNow 19 = .ok (.bipush 20, 2) := by decide +kernel
theorem dX7_rangeNow_21 : decode cX7_rangeNow 21 = .ok (.if_icmp .ge 7, 3) := by decide +kernel
theorem dX7_rangeNow_24 : decode cX7_rangeNow 24 = .ok (.iconst 1, 1) := by decide +kernel
theorem dX7_rangeNow_25 : decode cX7_rangeNow 25 = .ok (.goto 4, 3) := by decide +kernel
theorem dX7_rangeNow_28 : decode cX7_rangeNow 28 = .ok (.iconst 0, 1) := by decide +kernel
theorem dX7_rangeNow_29 : decode cX7_rangeNow 29 = .ok (.istore_n 2, 1) := by decide +kernel
theorem dX7_rangeNow_30 : decode cX7_rangeNow 30 = .ok (.iload_n 2, 1) := by decide +kernel
theorem dX7_rangeNow_31 : decode cX7_rangeNow 31 = .ok (.ifCond .eq 17, 3) := by decide +kernel
theorem dX7_rangeNow_34 : decode cX7_rangeNow 34 = .ok (.aload_n 0, 1) := by decide +kernel
theorem dX7_rangeNow_35 : decode cX7_rangeNow 35 = .ok (.getfield 36, 3) := by decide +kernel
theorem dX7_rangeNow_38 : decode cX7_rangeNow 38 = .ok (.getfield 120, 3) := by decide +kernel
theorem dX7_rangeNow_41 : decode cX7_rangeNow 41 = .ok (.iload_n 1, 1) := by decide +kernel
theorem dX7_rangeNow_42 : decode cX7_rangeNow 42 = .ok (.iaload, 1) := by decide +kernel
theorem dX7_rangeNow_43 : decode cX7_rangeNow 43 = .ok (.iconst 2, 1) := by decide +kernel
theorem dX7_rangeNow_44 : decode cX7_rangeNow 44 = .ok (.idiv, 1) := by decide +kernel
theorem dX7_rangeNow_45 : decode cX7_rangeNow 45 = .ok (.goto 12, 3) := by decide +kernel
theorem dX7_rangeNow_48 : decode cX7_rangeNow 48 = .ok (.aload_n 0, 1) := by decide +kernel
theorem dX7_rangeNow_49 : decode cX7_rangeNow 49 = .ok (.getfield 36, 3) := by decide +kernel
theorem dX7_rangeNow_52 : decode cX7_rangeNow 52 = .ok (.getfield 120, 3) := by decide +kernel
theorem dX7_rangeNow_55 : decode cX7_rangeNow 55 = .ok (.iload_n 1, 1) := by decide +kernel
theorem dX7_rangeNow_56 : decode cX7_rangeNow 56 = .ok (.iaload, 1) := by decide +kernel
theorem dX7_rangeNow_57 : decode cX7_rangeNow 57 = .ok (.ireturn, 1) := by decide +kernel
theorem dX7_nextCode_0 : decode cX7_nextCode 0 = .ok (.aload_n 0, 1) := by decide +kernel
theorem dX7_nextCode_1 : decode cX7_nextCode 1 = .ok (.getfield 18, 3) := by decide +kernel
theorem dX7_nextCode_4 : decode cX7_nextCode 4 = .ok (.iload_n 1, 1) := by decide +kernel
theorem dX7_nextCode_5 : decode cX7_nextCode 5 = .ok (.aload_n 0, 1) := by decide +kernel
theorem dX7_nextCode_6 : decode cX7_nextCode 6 = .ok (.getfield 18, 3) := by decide +kernel
theorem dX7_nextCode_9 : decode cX7_nextCode 9 = .ok (.iload_n 1, 1) := by decide +kernel
theorem dX7_nextCode_10 : decode cX7_nextCode 10 = .ok (.iaload, 1) := by decide +kernel
theorem dX7_nextCode_11 : decode cX7_nextCode 11 = .ok (.aload_n 0, 1) := by decide +kernel
theorem dX7_nextCode_12 : decode cX7_nextCode 12 = .ok (.getfield 36, 3) := by decide +kernel
theorem dX7_nextCode_15 : decode cX7_nextCode 15 = .ok (.iload_n 1, 1) := by decide +kernel
theorem dX7_nextCode_16 : decode cX7_nextCode 16 = .ok (.invokevirtual 103, 3) := by decide +kernel
theorem dX7_nextCode_19 : decode cX7_nextCode 19 = .ok (.iadd, 1) := by decide +kernel
theorem dX7_nextCode_20 : decode cX7_nextCode 20 = .ok (.sipush 10000, 3) := by decide +kernel
theorem dX7_nextCode_23 : decode cX7_nextCode 23 = .ok (.irem, 1) := by decide +kernel
theorem dX7_nextCode_24 : decode cX7_nextCode 24 = .ok (.iastore, 1) := by decide +kernel
theorem dX7_nextCode_25 : decode cX7_nextCode 25 = .ok (.aload_n 0, 1) := by decide +kernel
theorem dX7_nextCode_26 : decode cX7_nextCode 26 = .ok (.iload_n 1, 1) := by decide +kernel
theorem dX7_nextCode_27 : decode cX7_nextCode 27 = .ok (.iconst 0, 1) := by decide +kernel
theorem dX7_nextCode_28 : decode cX7_nextCode 28 = .ok (.invokevirtual 123, 3) := by decide +kernel
theorem dX7_nextCode_31 : decode cX7_nextCode 31 = .ok (.ireturn, 1) := by decide +kernel
theorem dX7_isHeardAt_0 : decode cX7_isHeardAt 0 = .ok (.aload_n 0, 1) := by decide +kernel
theorem dX7_isHeardAt_1 : decode cX7_isHeardAt 1 = .ok (.iload_n 1, 1) := by decide +kernel
theorem dX7_isHeardAt_2 : decode cX7_isHeardAt 2 = .ok (.invokevirtual 126, 3) := by decide +kernel
theorem dX7_isHeardAt_5 : decode cX7_isHeardAt 5 = .ok (.ifCond .ne 25, 3) := by decide +kernel
theorem dX7_isHeardAt_8 : decode cX7_isHeardAt 8 = .ok (.aload_n 0, 1) := by decide +kernel
theorem dX7_isHeardAt_9 : decode cX7_isHeardAt 9 = .ok (.getfield 36, 3) := by decide +kernel
theorem dX7_isHeardAt_12 : decode cX7_isHeardAt 12 = .ok (.getfield 130, 3) := by decide +kernel
theorem dX7_isHeardAt_15 : decode cX7_isHeardAt 15 = .ok (.iload_n 1, 1) := by decide +kernel
theorem dX7_isHeardAt_16 : decode cX7_isHeardAt 16 = .ok (.iaload, 1) := by decide +kernel
theorem dX7_isHeardAt_17 : decode cX7_isHeardAt 17 = .ok (.iload_n 2, 1) := by decide +kernel
theorem dX7_isHeardAt_18 : decode cX7_isHeardAt 18 = .ok (.isub, 1) := by decide +kernel
theorem dX7_isHeardAt_19 : decode cX7_isHeardAt 19 = .ok (.invokestatic 133, 3) := by decide +kernel
theorem dX7_isHeardAt_22 : decode cX7_isHeardAt 22 = .ok (.iload_n 3, 1) := by decide +kernel
theorem dX7_isHeardAt_23 : decode cX7_isHeardAt 23 = .ok (.if_icmp .gt 7, 3) := by decide +kernel
theorem dX7_isHeardAt_26 : decode cX7_isHeardAt 26 = .ok (.iconst 1, 1) := by decide +kernel
theorem dX7_isHeardAt_27 : decode cX7_isHeardAt 27 = .ok (.goto 4, 3) := by decide +kernel
theorem dX7_isHeardAt_30 : decode cX7_isHeardAt 30 = .ok (.iconst 0, 1) := by decide +kernel
theorem dX7_isHeardAt_31 : decode cX7_isHeardAt 31 = .ok (.ireturn, 1) := by decide +kernel
theorem dX7_heardByGates_0 : decode cX7_heardByGates 0 = .ok (.iconst 0, 1) := by decide +kernel
theorem dX7_heardByGates_1 : decode cX7_heardByGates 1 = .ok (.istore 4, 2) := by decide +kernel
theorem dX7_heardByGates_3 : decode cX7_heardByGates 3 = .ok (.iconst 0, 1) := by decide +kernel
theorem dX7_heardByGates_4 : decode cX7_heardByGates 4 = .ok (.istore 5, 2) := by decide +kernel
theorem dX7_heardByGates_6 : decode cX7_heardByGates 6 = .ok (.iload 5, 2) := by decide +kernel
theorem dX7_heardByGates_8 : decode cX7_heardByGates 8 = .ok (.aload_n 0, 1) := by decide +kernel
theorem dX7_heardByGates_9 : decode cX7_heardByGates 9 = .ok (.getfield 36, 3) := by decide +kernel
theorem dX7_heardByGates_12 : decode cX7_heardByGates 12 = .ok (.getfield 76, 3) := by decide +kernel
theorem dX7_heardByGates_15 : decode cX7_heardByGates 15 = .ok (.if_icmp .ge 39, 3) := by decide +kernel
theorem dX7_heardByGates_18 : decode cX7_heardByGates 18 = .ok (.aload_n 0, 1) := by decide +kernel
theorem dX7_heardByGates_19 : decode cX7_heardByGates 19 = .ok (.iload 5, 2) := by decide +kernel
theorem dX7_heardByGates_21 : decode cX7_heardByGates 21 = .ok (.iload_n 2, 1) := by decide +kernel
theorem dX7_heardByGates_22 : decode cX7_heardByGates 22 = .ok (.iload_n 3, 1) := by decide +kernel
theorem dX7_heardByGates_23 : decode cX7_heardByGates 23 = .ok (.invokevirtual 113, 3) := by decide +kernel
theorem dX7_heardByGates_26 : decode cX7_heardByGates 26 = .ok (.ifCond .eq 22, 3) := by decide +kernel
theorem dX7_heardByGates_29 : decode cX7_heardByGates 29 = .ok (.aload_n 0, 1) := by decide +kernel
theorem dX7_heardByGates_30 : decode cX7_heardByGates 30 = .ok (.iload 5, 2) := by decide +kernel
theorem dX7_heardByGates_32 : decode cX7_heardByGates 32 = .ok (.iload_n 1, 1) := by decide +kernel
theorem dX7_heardByGates_33 : decode cX7_heardByGates 33 = .ok (.invokevirtual 106, 3) := by decide +kernel
theorem dX7_heardByGates_36 : decode cX7_heardByGates 36 = .ok (.ifCond .eq 12, 3) := by decide +kernel
theorem dX7_heardByGates_39 : decode cX7_heardByGates 39 = .ok (.iload 4, 2) := by decide +kernel
theorem dX7_heardByGates_41 : decode cX7_heardByGates 41 = .ok (.iconst 1, 1) := by decide +kernel
theorem dX7_heardByGates_42 : decode cX7_heardByGates 42 = .ok (.iload 5, 2) := by decide +kernel
theorem dX7_heardByGates_44 : decode cX7_heardByGates 44 = .ok (.ishl, 1) := by decide +kernel
theorem dX7_heardByGates_45 : decode cX7_heardByGates 45 = .ok (.ior, 1) := by decide +kernel
theorem dX7_heardByGates_46 : decode cX7_heardByGates 46 = .ok (.istore 4, 2) := by decide +kernel
theorem dX7_heardByGates_48 : decode cX7_heardByGates 48 = .ok (.iinc 5 1, 3) := by decide +kernel
theorem dX7_heardByGates_51 : decode cX7_heardByGates 51 = .ok (.goto (-45), 3) := by decide +kernel
theorem dX7_heardByGates_54 : decode cX7_heardByGates 54 = .ok (.iload 4, 2) := by decide +kernel
theorem dX7_heardByGates_56 : decode cX7_heardByGates 56 = .ok (.ireturn, 1) := by decide +kernel
theorem dX7_heardByEar_0 : decode cX7_heardByEar 0 = .ok (.aload_n 0, 1) := by decide +kernel
theorem dX7_heardByEar_1 : decode cX7_heardByEar 1 = .ok (.getfield 49, 3) := by decide +kernel
theorem dX7_heardByEar_4 : decode cX7_heardByEar 4 = .ok (.iload_n 2, 1) := by decide +kernel
theorem dX7_heardByEar_5 : decode cX7_heardByEar 5 = .ok (.isub, 1) := by decide +kernel
theorem dX7_heardByEar_6 : decode cX7_heardByEar 6 = .ok (.invokestatic 133, 3) := by decide +kernel
theorem dX7_heardByEar_9 : decode cX7_heardByEar 9 = .ok (.iload_n 3, 1) := by decide +kernel
theorem dX7_heardByEar_10 : decode cX7_heardByEar 10 = .ok (.aload_n 0, 1) := by decide +kernel
theorem dX7_heardByEar_11 : decode cX7_heardByEar 11 = .ok (.getfield 36, 3) := by decide +kernel
theorem dX7_heardByEar_14 : decode cX7_heardByEar 14 = .ok (.getfield 110, 3) := by decide +kernel
theorem dX7_heardByEar_17 : decode cX7_heardByEar 17 = .ok (.invokestatic 138, 3) := by decide +kernel
theorem dX7_heardByEar_20 : decode cX7_heardByEar 20 = .ok (.if_icmp .le 4, 3) := by decide +kernel
theorem dX7_heardByEar_23 : decode cX7_heardByEar 23 = .ok (.return_, 1) := by decide +kernel
theorem dX7_heardByEar_24 : decode cX7_heardByEar 24 = .ok (.aload_n 0, 1) := by decide +kernel
theorem dX7_heardByEar_25 : decode cX7_heardByEar 25 = .ok (.getfield 9, 3) := by decide +kernel
theorem dX7_heardByEar_28 : decode cX7_heardByEar 28 = .ok (.iconst 0, 1) := by decide +kernel
theorem dX7_heardByEar_29 : decode cX7_heardByEar 29 = .ok (.aload_n 0, 1) := by decide +kernel
theorem dX7_heardByEar_30 : decode cX7_heardByEar 30 = .ok (.getfield 9, 3) := by decide +kernel
theorem dX7_heardByEar_33 : decode cX7_heardByEar 33 = .ok (.iconst 1, 1) := by decide +kernel
theorem dX7_heardByEar_34 : decode cX7_heardByEar 34 = .ok (.bipush 7, 2) := by decide +kernel
theorem dX7_heardByEar_36 : decode cX7_heardByEar 36 = .ok (.invokestatic 70, 3) := by decide +kernel
theorem dX7_heardByEar_39 : decode cX7_heardByEar 39 = .ok (.aload_n 0, 1) := by decide +kernel
theorem dX7_heardByEar_40 : decode cX7_heardByEar 40 = .ok (.getfield 9, 3) := by decide +kernel
theorem dX7_heardByEar_43 : decode cX7_heardByEar 43 = .ok (.iconst 0, 1) := by decide +kernel
theorem dX7_heardByEar_44 : decode cX7_heardByEar 44 = .ok (.iload_n 1, 1) := by decide +kernel
theorem dX7_heardByEar_45 : decode cX7_heardByEar 45 = .ok (.iastore, 1) := by decide +kernel
theorem dX7_heardByEar_46 : decode cX7_heardByEar 46 = .ok (.aload_n 0, 1) := by decide +kernel
theorem dX7_heardByEar_47 : decode cX7_heardByEar 47 = .ok (.aload_n 0, 1) := by decide +kernel
theorem dX7_heardByEar_48 : decode cX7_heardByEar 48 = .ok (.getfield 53, 3) := by decide +kernel
theorem dX7_heardByEar_51 : decode cX7_heardByEar 51 = .ok (.iconst 1, 1) := by decide +kernel
theorem dX7_heardByEar_52 : decode cX7_heardByEar 52 = .ok (.iadd, 1) := by decide +kernel
theorem dX7_heardByEar_53 : decode cX7_heardByEar 53 = .ok (.bipush 8, 2) := by decide +kernel
theorem dX7_heardByEar_55 : decode cX7_heardByEar 55 = .ok (.invokestatic 141, 3) := by decide +kernel
theorem dX7_heardByEar_58 : decode cX7_heardByEar 58 = .ok (.putfield 53, 3) := by decide +kernel
theorem dX7_heardByEar_61 : decode cX7_heardByEar 61 = .ok (.return_, 1) := by decide +kernel
theorem dX7_hears_0 : decode cX7_hears 0 = .ok (.aload_n 0, 1) := by decide +kernel
theorem dX7_hears_1 : decode cX7_hears 1 = .ok (.getfield 27, 3) := by decide +kernel
theorem dX7_hears_4 : decode cX7_hears 4 = .ok (.iload_n 1, 1) := by decide +kernel
theorem dX7_hears_5 : decode cX7_hears 5 = .ok (.iaload, 1) := by decide +kernel
theorem dX7_hears_6 : decode cX7_hears 6 = .ok (.istore_n 3, 1) := by decide +kernel
theorem dX7_hears_7 : decode cX7_hears 7 = .ok (.aload_n 0, 1) := by decide +kernel
theorem dX7_hears_8 : decode cX7_hears 8 = .ok (.getfield 36, 3) := by decide +kernel
theorem dX7_hears_11 : decode cX7_hears 11 = .ok (.iload_n 3, 1) := by decide +kernel
theorem dX7_hears_12 : decode cX7_hears 12 = .ok (.invokevirtual 144, 3) := by decide +kernel
theorem dX7_hears_15 : decode cX7_hears 15 = .ok (.ifCond .eq 39, 3) := by decide +kernel
theorem dX7_hears_18 : decode cX7_hears 18 = .ok (.aload_n 0, 1) := by decide +kernel
theorem dX7_hears_19 : decode cX7_hears 19 = .ok (.getfield 36, 3) := by decide +kernel
theorem dX7_hears_22 : decode cX7_hears 22 = .ok (.getfield 79, 3) := by decide +kernel
theorem dX7_hears_25 : decode cX7_hears 25 = .ok (.iload_n 3, 1) := by decide +kernel
theorem dX7_hears_26 : decode cX7_hears 26 = .ok (.iaload, 1) := by decide +kernel
theorem dX7_hears_27 : decode cX7_hears 27 = .ok (.aload_n 0, 1) := by decide +kernel
theorem dX7_hears_28 : decode cX7_hears 28 = .ok (.getfield 30, 3) := by decide +kernel
theorem dX7_hears_31 : decode cX7_hears 31 = .ok (.iload_n 1, 1) := by decide +kernel
theorem dX7_hears_32 : decode cX7_hears 32 = .ok (.iaload, 1) := by decide +kernel
theorem dX7_hears_33 : decode cX7_hears 33 = .ok (.invokestatic 82, 3) := by decide +kernel
theorem dX7_hears_36 : decode cX7_hears 36 = .ok (.iload_n 2, 1) := by decide +kernel
theorem dX7_hears_37 : decode cX7_hears 37 = .ok (.if_icmp .ne 17, 3) := by decide +kernel
theorem dX7_hears_40 : decode cX7_hears 40 = .ok (.aload_n 0, 1) := by decide +kernel
theorem dX7_hears_41 : decode cX7_hears 41 = .ok (.iload_n 1, 1) := by decide +kernel
theorem dX7_hears_42 : decode cX7_hears 42 = .ok (.iload_n 3, 1) := by decide +kernel
theorem dX7_hears_43 : decode cX7_hears 43 = .ok (.aload_n 0, 1) := by decide +kernel
theorem dX7_hears_44 : decode cX7_hears 44 = .ok (.getfield 30, 3) := by decide +kernel
theorem dX7_hears_47 : decode cX7_hears 47 = .ok (.iload_n 1, 1) := by decide +kernel
theorem dX7_hears_48 : decode cX7_hears 48 = .ok (.iaload, 1) := by decide +kernel
theorem dX7_hears_49 : decode cX7_hears 49 = .ok (.invokevirtual 147, 3) := by decide +kernel
theorem dX7_hears_52 : decode cX7_hears 52 = .ok (.iconst 1, 1) := by decide +kernel
theorem dX7_hears_53 : decode cX7_hears 53 = .ok (.ireturn, 1) := by decide +kernel
theorem dX7_hears_54 : decode cX7_hears 54 = .ok (.iconst 0, 1) := by decide +kernel
theorem dX7_hears_55 : decode cX7_hears 55 = .ok (.istore 4, 2) := by decide +kernel
theorem dX7_hears_57 : decode cX7_hears 57 = .ok (.iload 4, 2) := by decide +kernel
theorem dX7_hears_59 : decode cX7_hears 59 = .ok (.aload_n 0, 1) := by decide +kernel
theorem dX7_hears_60 : decode cX7_hears 60 = .ok (.getfield 36, 3) := by decide +kernel
theorem dX7_hears_63 : decode cX7_hears 63 = .ok (.getfield 150, 3) := by decide +kernel
theorem dX7_hears_66 : decode cX7_hears 66 = .ok (.if_icmp .ge 91, 3) := by decide +kernel
theorem dX7_hears_69 : decode cX7_hears 69 = .ok (.aload_n 0, 1) := by decide +kernel
theorem dX7_hears_70 : decode cX7_hears 70 = .ok (.iload_n 1, 1) := by decide +kernel
theorem dX7_hears_71 : decode cX7_hears 71 = .ok (.iload 4, 2) := by decide +kernel
theorem dX7_hears_73 : decode cX7_hears 73 = .ok (.iload_n 2, 1) := by decide +kernel
theorem dX7_hears_74 : decode cX7_hears 74 = .ok (.invokevirtual 153, 3) := by decide +kernel
theorem dX7_hears_77 : decode cX7_hears 77 = .ok (.istore 5, 2) := by decide +kernel
theorem dX7_hears_79 : decode cX7_hears 79 = .ok (.iload 5, 2) := by decide +kernel
theorem dX7_hears_81 : decode cX7_hears 81 = .ok (.iconst (-1), 1) := by decide +kernel
theorem dX7_hears_82 : decode cX7_hears 82 = .ok (.if_icmp .ne 6, 3) := by decide +kernel
theorem dX7_hears_85 : decode cX7_hears 85 = .ok (.goto 66, 3) := by decide +kernel
theorem dX7_hears_88 : decode cX7_hears 88 = .ok (.aload_n 0, 1) := by decide +kernel
theorem dX7_hears_89 : decode cX7_hears 89 = .ok (.iload_n 1, 1) := by decide +kernel
theorem dX7_hears_90 : decode cX7_hears 90 = .ok (.iload 4, 2) := by decide +kernel
theorem dX7_hears_92 : decode cX7_hears 92 = .ok (.invokevirtual 156, 3) := by decide +kernel
theorem dX7_hears_95 : decode cX7_hears 95 = .ok (.iload 5, 2) := by decide +kernel
theorem dX7_hears_97 : decode cX7_hears 97 = .ok (.iadd, 1) := by decide +kernel
theorem dX7_hears_98 : decode cX7_hears 98 = .ok (.sipush 10000, 3) := by decide +kernel
theorem dX7_hears_101 : decode cX7_hears 101 = .ok (.irem, 1) := by decide +kernel
theorem dX7_hears_102 : decode cX7_hears 102 = .ok (.istore 6, 2) := by decide +kernel
theorem dX7_hears_104 : decode cX7_hears 104 = .ok (.aload_n 0, 1) := by decide +kernel
theorem dX7_hears_105 : decode cX7_hears 105 = .ok (.getfield 36, 3) := by decide +kernel
theorem dX7_hears_108 : decode cX7_hears 108 = .ok (.getfield 159, 3) := by decide +kernel
theorem dX7_hears_111 : decode cX7_hears 111 = .ok (.iload_n 1, 1) := by decide +kernel
theorem dX7_hears_112 : decode cX7_hears 112 = .ok (.iaload, 1) := by decide +kernel
theorem dX7_hears_113 : decode cX7_hears 113 = .ok (.iconst 3, 1) := by decide +kernel
theorem dX7_hears_114 : decode cX7_hears 114 = .ok (.if_icmp .ne 26, 3) := by decide +kernel
theorem dX7_hears_117 : decode cX7_hears 117 = .ok (.iload 5, 2) := by decide +kernel
theorem dX7_hears_119 : decode cX7_hears 119 = .ok (.iconst 4, 1) := by decide +kernel
theorem dX7_hears_120 : decode cX7_hears 120 = .ok (.if_icmp .le 20, 3) := by decide +kernel
theorem dX7_hears_123 : decode cX7_hears 123 = .ok (.aload_n 0, 1) := by decide +kernel
theorem dX7_hears_124 : decode cX7_hears 124 = .ok (.iload_n 1, 1) := by decide +kernel
theorem dX7_hears_125 : decode cX7_hears 125 = .ok (.iload 4, 2) := by decide +kernel
theorem dX7_hears_127 : decode cX7_hears 127 = .ok (.iload 6, 2) := by decide +kernel
theorem dX7_hears_129 : decode cX7_hears 129 = .ok (.iconst 1, 1) := by decide +kernel
theorem dX7_hears_130 : decode cX7_hears 130 = .ok (.iadd, 1) := by decide +kernel
theorem dX7_hears_131 : decode cX7_hears 131 = .ok (.sipush 10000, 3) := by decide +kernel
theorem dX7_hears_134 : decode cX7_hears 134 = .ok (.irem, 1) := by decide +kernel
theorem dX7_hears_135 : decode cX7_hears 135 = .ok (.invokevirtual 62, 3) := by decide +kernel
theorem dX7_hears_138 : decode cX7_hears 138 = .ok (.iconst 0, 1) := by decide +kernel
theorem dX7_hears_139 : decode cX7_hears 139 = .ok (.ireturn, 1) := by decide +kernel
theorem dX7_hears_140 : decode cX7_hears 140 = .ok (.aload_n 0, 1) := by decide +kernel
theorem dX7_hears_141 : decode cX7_hears 141 = .ok (.iload_n 1, 1) := by decide +kernel
theorem dX7_hears_142 : decode cX7_hears 142 = .ok (.iload 4, 2) := by decide +kernel
theorem dX7_hears_144 : decode cX7_hears 144 = .ok (.iload 6, 2) := by decide +kernel
theorem dX7_hears_146 : decode cX7_hears 146 = .ok (.invokevirtual 147, 3) := by decide +kernel
theorem dX7_hears_149 : decode cX7_hears 149 = .ok (.iconst 1, 1) := by decide +kernel
theorem dX7_hears_150 : decode cX7_hears 150 = .ok (.ireturn, 1) := by decide +kernel
theorem dX7_hears_151 : decode cX7_hears 151 = .ok (.iinc 4 1, 3) := by decide +kernel
theorem dX7_hears_154 : decode cX7_hears 154 = .ok (.goto (-97), 3) := by decide +kernel
theorem dX7_hears_157 : decode cX7_hears 157 = .ok (.iconst 0, 1) := by decide +kernel
theorem dX7_hears_158 : decode cX7_hears 158 = .ok (.ireturn, 1) := by decide +kernel
theorem dX7_firstAhead_0 : decode cX7_firstAhead 0 = .ok (.aload_n 0, 1) := by decide +kernel
theorem dX7_firstAhead_1 : decode cX7_firstAhead 1 = .ok (.getfield 36, 3) := by decide +kernel
theorem dX7_firstAhead_4 : decode cX7_firstAhead 4 = .ok (.getfield 79, 3) := by decide +kernel
theorem dX7_firstAhead_7 : decode cX7_firstAhead 7 = .ok (.iload_n 2, 1) := by decide +kernel
theorem dX7_firstAhead_8 : decode cX7_firstAhead 8 = .ok (.iaload, 1) := by decide +kernel
theorem dX7_firstAhead_9 : decode cX7_firstAhead 9 = .ok (.istore 4, 2) := by decide +kernel
theorem dX7_firstAhead_11 : decode cX7_firstAhead 11 = .ok (.aload_n 0, 1) := by decide +kernel
theorem dX7_firstAhead_12 : decode cX7_firstAhead 12 = .ok (.iload_n 1, 1) := by decide +kernel
theorem dX7_firstAhead_13 : decode cX7_firstAhead 13 = .ok (.iload_n 2, 1) := by decide +kernel
theorem dX7_firstAhead_14 : decode cX7_firstAhead 14 = .ok (.invokevirtual 156, 3) := by decide +kernel
theorem dX7_firstAhead_17 : decode cX7_firstAhead 17 = .ok (.istore 5, 2) := by decide +kernel
theorem dX7_firstAhead_19 : decode cX7_firstAhead 19 = .ok (.aload_n 0, 1) := by decide +kernel
theorem dX7_firstAhead_20 : decode cX7_firstAhead 20 = .ok (.getfield 36, 3) := by decide +kernel
theorem dX7_firstAhead_23 : decode cX7_firstAhead 23 = .ok (.iload_n 1, 1) := by decide +kernel
theorem dX7_firstAhead_24 : decode cX7_firstAhead 24 = .ok (.invokevirtual 162, 3) := by decide +kernel
theorem dX7_firstAhead_27 : decode cX7_firstAhead 27 = .ok (.istore 6, 2) := by decide +kernel
theorem dX7_firstAhead_29 : decode cX7_firstAhead 29 = .ok (.aload_n 0, 1) := by decide +kernel
theorem dX7_firstAhead_30 : decode cX7_firstAhead 30 = .ok (.getfield 36, 3) := by decide +kernel
theorem dX7_firstAhead_33 : decode cX7_firstAhead 33 = .ok (.iload_n 1, 1) := by decide +kernel
theorem dX7_firstAhead_34 : decode cX7_firstAhead 34 = .ok (.invokevirtual 165, 3) := by decide +kernel
theorem dX7_firstAhead_37 : decode cX7_firstAhead 37 = .ok (.istore 7, 2) := by decide +kernel
theorem dX7_firstAhead_39 : decode cX7_firstAhead 39 = .ok (.iload 7, 2) := by decide +kernel
theorem dX7_firstAhead_41 : decode cX7_firstAhead 41 = .ok (.iload 6, 2) := by decide +kernel
theorem dX7_firstAhead_43 : decode cX7_firstAhead 43 = .ok (.if_icmp .gt 30, 3) := by decide +kernel
theorem dX7_firstAhead_46 : decode cX7_firstAhead 46 = .ok (.iload 4, 2) := by decide +kernel
theorem dX7_firstAhead_48 : decode cX7_firstAhead 48 = .ok (.iload 5, 2) := by decide +kernel
theorem dX7_firstAhead_50 : decode cX7_firstAhead 50 = .ok (.iload 7, 2) := by decide +kernel
theorem dX7_firstAhead_52 : decode cX7_firstAhead 52 = .ok (.iadd, 1) := by decide +kernel
theorem dX7_firstAhead_53 : decode cX7_firstAhead 53 = .ok (.sipush 10000, 3) := by decide +kernel
theorem dX7_firstAhead_56 : decode cX7_firstAhead 56 = .ok (.irem, 1) := by decide +kernel
theorem dX7_firstAhead_57 : decode cX7_firstAhead 57 = .ok (.invokestatic 82, 3) := by decide +kernel
theorem dX7_firstAhead_60 : decode cX7_firstAhead 60 = .ok (.iload_n 3, 1) := by decide +kernel
theorem dX7_firstAhead_61 : decode cX7_firstAhead 61 = .ok (.if_icmp .ne 6, 3) := by decide +kernel
theorem dX7_firstAhead_64 : decode cX7_firstAhead 64 = .ok (.iload 7, 2) := by decide +kernel
theorem dX7_firstAhead_66 : decode cX7_firstAhead 66 = .ok (.ireturn, 1) := by decide +kernel
theorem dX7_firstAhead_67 : decode cX7_firstAhead 67 = .ok (.iinc 7 1, 3) := by decide +kernel
theorem dX7_firstAhead_70 : decode cX7_firstAhead 70 = .ok (.goto (-31), 3) := by decide +kernel
theorem dX7_firstAhead_73 : decode cX7_firstAhead 73 = .ok (.iconst (-1), 1) := by decide +kernel
theorem dX7_firstAhead_74 : decode cX7_firstAhead 74 = .ok (.ireturn, 1) := by decide +kernel
theorem dX7_open_0 : decode cX7_open 0 = .ok (.aload_n 0, 1) := by decide +kernel
theorem dX7_open_1 : decode cX7_open 1 = .ok (.getfield 33, 3) := by decide +kernel
theorem dX7_open_4 : decode cX7_open 4 = .ok (.iload_n 1, 1) := by decide +kernel
theorem dX7_open_5 : decode cX7_open 5 = .ok (.iconst 5, 1) := by decide +kernel
theorem dX7_open_6 : decode cX7_open 6 = .ok (.imul, 1) := by decide +kernel
theorem dX7_open_7 : decode cX7_open 7 = .ok (.iload_n 2, 1) := by decide +kernel
theorem dX7_open_8 : decode cX7_open 8 = .ok (.iadd, 1) := by decide +kernel
theorem dX7_open_9 : decode cX7_open 9 = .ok (.iload_n 3, 1) := by decide +kernel
theorem dX7_open_10 : decode cX7_open 10 = .ok (.iastore, 1) := by decide +kernel
theorem dX7_open_11 : decode cX7_open 11 = .ok (.aload_n 0, 1) := by decide +kernel
theorem dX7_open_12 : decode cX7_open 12 = .ok (.getfield 24, 3) := by decide +kernel
theorem dX7_open_15 : decode cX7_open 15 = .ok (.iload_n 1, 1) := by decide +kernel
theorem dX7_open_16 : decode cX7_open 16 = .ok (.aload_n 0, 1) := by decide +kernel
theorem dX7_open_17 : decode cX7_open 17 = .ok (.getfield 24, 3) := by decide +kernel
theorem dX7_open_20 : decode cX7_open 20 = .ok (.iload_n 1, 1) := by decide +kernel
theorem dX7_open_21 : decode cX7_open 21 = .ok (.iaload, 1) := by decide +kernel
theorem dX7_open_22 : decode cX7_open 22 = .ok (.iconst 1, 1) := by decide +kernel
theorem dX7_open_23 : decode cX7_open 23 = .ok (.iadd, 1) := by decide +kernel
theorem dX7_open_24 : decode cX7_open 24 = .ok (.sipush 9999, 3) := by decide +kernel
theorem dX7_open_27 : decode cX7_open 27 = .ok (.invokestatic 141, 3) := by decide +kernel
theorem dX7_open_30 : decode cX7_open 30 = .ok (.iastore, 1) := by decide +kernel
theorem dX7_open_31 : decode cX7_open 31 = .ok (.aload_n 0, 1) := by decide +kernel
theorem dX7_open_32 : decode cX7_open 32 = .ok (.iload_n 1, 1) := by decide +kernel
theorem dX7_open_33 : decode cX7_open 33 = .ok (.iconst (-1), 1) := by decide +kernel
theorem dX7_open_34 : decode cX7_open 34 = .ok (.iconst (-1), 1) := by decide +kernel
theorem dX7_open_35 : decode cX7_open 35 = .ok (.invokevirtual 62, 3) := by decide +kernel
theorem dX7_open_38 : decode cX7_open 38 = .ok (.return_, 1) := by decide +kernel
theorem dX7_waitFor_0 : decode cX7_waitFor 0 = .ok (.aload_n 0, 1) := by decide +kernel
theorem dX7_waitFor_1 : decode cX7_waitFor 1 = .ok (.getfield 27, 3) := by decide +kernel
theorem dX7_waitFor_4 : decode cX7_waitFor 4 = .ok (.iload_n 1, 1) := by decide +kernel
theorem dX7_waitFor_5 : decode cX7_waitFor 5 = .ok (.iload_n 2, 1) := by decide +kernel
theorem dX7_waitFor_6 : decode cX7_waitFor 6 = .ok (.iastore, 1) := by decide +kernel
theorem dX7_waitFor_7 : decode cX7_waitFor 7 = .ok (.aload_n 0, 1) := by decide +kernel
theorem dX7_waitFor_8 : decode cX7_waitFor 8 = .ok (.getfield 30, 3) := by decide +kernel
theorem dX7_waitFor_11 : decode cX7_waitFor 11 = .ok (.iload_n 1, 1) := by decide +kernel
theorem dX7_waitFor_12 : decode cX7_waitFor 12 = .ok (.iload_n 3, 1) := by decide +kernel
theorem dX7_waitFor_13 : decode cX7_waitFor 13 = .ok (.iastore, 1) := by decide +kernel
theorem dX7_waitFor_14 : decode cX7_waitFor 14 = .ok (.return_, 1) := by decide +kernel
theorem dX7_waitsAs_0 : decode cX7_waitsAs 0 = .ok (.iconst 0, 1) := by decide +kernel
theorem dX7_waitsAs_1 : decode cX7_waitsAs 1 = .ok (.istore_n 2, 1) := by decide +kernel
theorem dX7_waitsAs_2 : decode cX7_waitsAs 2 = .ok (.iload_n 2, 1) := by decide +kernel
theorem dX7_waitsAs_3 : decode cX7_waitsAs 3 = .ok (.aload_n 0, 1) := by decide +kernel
theorem dX7_waitsAs_4 : decode cX7_waitsAs 4 = .ok (.getfield 36, 3) := by decide +kernel
theorem dX7_waitsAs_7 : decode cX7_waitsAs 7 = .ok (.getfield 76, 3) := by decide +kernel
theorem dX7_waitsAs_10 : decode cX7_waitsAs 10 = .ok (.if_icmp .ge 41, 3) := by decide +kernel
theorem dX7_waitsAs_13 : decode cX7_waitsAs 13 = .ok (.aload_n 0, 1) := by decide +kernel
theorem dX7_waitsAs_14 : decode cX7_waitsAs 14 = .ok (.getfield 27, 3) := by decide +kernel
theorem dX7_waitsAs_17 : decode cX7_waitsAs 17 = .ok (.iload_n 2, 1) := by decide +kernel
theorem dX7_waitsAs_18 : decode cX7_waitsAs 18 = .ok (.iaload, 1) := by decide +kernel
theorem dX7_waitsAs_19 : decode cX7_waitsAs 19 = .ok (.aload_n 1, 1) := by decide +kernel
theorem dX7_waitsAs_20 : decode cX7_waitsAs 20 = .ok (.getfield 27, 3) := by decide +kernel
theorem dX7_waitsAs_23 : decode cX7_waitsAs 23 = .ok (.iload_n 2, 1) := by decide +kernel
theorem dX7_waitsAs_24 : decode cX7_waitsAs 24 = .ok (.iaload, 1) := by decide +kernel
theorem dX7_waitsAs_25 : decode cX7_waitsAs 25 = .ok (.if_icmp .ne 18, 3) := by decide +kernel
theorem dX7_waitsAs_28 : decode cX7_waitsAs 28 = .ok (.aload_n 0, 1) := by decide +kernel
theorem dX7_waitsAs_29 : decode cX7_waitsAs 29 = .ok (.getfield 30, 3) := by decide +kernel
theorem dX7_waitsAs_32 : decode cX7_waitsAs 32 = .ok (.iload_n 2, 1) := by decide +kernel
theorem dX7_waitsAs_33 : decode cX7_waitsAs 33 = .ok (.iaload, 1) := by decide +kernel
theorem dX7_waitsAs_34 : decode cX7_waitsAs 34 = .ok (.aload_n 1, 1) := by decide +kernel
theorem dX7_waitsAs_35 : decode cX7_waitsAs 35 = .ok (.getfield 30, 3) := by decide +kernel
theorem dX7_waitsAs_38 : decode cX7_waitsAs 38 = .ok (.iload_n 2, 1) := by decide +kernel
theorem dX7_waitsAs_39 : decode cX7_waitsAs 39 = .ok (.iaload, 1) := by decide +kernel
theorem dX7_waitsAs_40 : decode cX7_waitsAs 40 = .ok (.if_icmp .eq 5, 3) := by decide +kernel
theorem dX7_waitsAs_43 : decode cX7_waitsAs 43 = .ok (.iconst 0, 1) := by decide +kernel
theorem dX7_waitsAs_44 : decode cX7_waitsAs 44 = .ok (.ireturn, 1) := by decide +kernel
theorem dX7_waitsAs_45 : decode cX7_waitsAs 45 = .ok (.iinc 2 1, 3) := by decide +kernel
theorem dX7_waitsAs_48 : decode cX7_waitsAs 48 = .ok (.goto (-46), 3) := by decide +kernel
theorem dX7_waitsAs_51 : decode cX7_waitsAs 51 = .ok (.iconst 1, 1) := by decide +kernel
theorem dX7_waitsAs_52 : decode cX7_waitsAs 52 = .ok (.ireturn, 1) := by decide +kernel
theorem dX8_init_0 : decode cX8_init 0 = .ok (.aload_n 0, 1) := by decide +kernel
theorem dX8_init_1 : decode cX8_init 1 = .ok (.invokespecial 3, 3) := by decide +kernel
theorem dX8_init_4 : decode cX8_init 4 = .ok (.aload_n 0, 1) := by decide +kernel
theorem dX8_init_5 : decode cX8_init 5 = .ok (.sipush 256, 3) := by decide +kernel
theorem dX8_init_8 : decode cX8_init 8 = .ok (.newarray .boolean, 2) := by decide +kernel
theorem dX8_init_10 : decode cX8_init 10 = .ok (.putfield 9, 3) := by decide +kernel
theorem dX8_init_13 : decode cX8_init 13 = .ok (.aload_n 0, 1) := by decide +kernel
theorem dX8_init_14 : decode cX8_init 14 = .ok (.sipush 509, 3) := by decide +kernel
theorem dX8_init_17 : decode cX8_init 17 = .ok (.newarray .int, 2) := by decide +kernel
theorem dX8_init_19 : decode cX8_init 19 = .ok (.putfield 15, 3) := by decide +kernel
theorem dX8_init_22 : decode cX8_init 22 = .ok (.return_, 1) := by decide +kernel
theorem dX8_add_0 : decode cX8_add 0 = .ok (.aload_n 0, 1) := by decide +kernel
theorem dX8_add_1 : decode cX8_add 1 = .ok (.getfield 19, 3) := by decide +kernel
theorem dX8_add_4 : decode cX8_add 4 = .ok (.bipush 6, 2) := by decide +kernel
theorem dX8_add_6 : decode cX8_add 6 = .ok (.if_icmp .lt 5, 3) := by decide +kernel
theorem dX8_add_9 : decode cX8_add 9 = .ok (.iconst 0, 1) := by decide +kernel
theorem dX8_add_10 : decode cX8_add 10 = .ok (.ireturn, 1) := by decide +kernel
theorem dX8_add_11 : decode cX8_add 11 = .ok (.iconst 0, 1) := by decide +kernel
theorem dX8_add_12 : decode cX8_add 12 = .ok (.istore_n 3, 1) := by decide +kernel
theorem dX8_add_13 : decode cX8_add 13 = .ok (.iload_n 3, 1) := by decide +kernel
theorem dX8_add_14 : decode cX8_add 14 = .ok (.sipush 256, 3) := by decide +kernel
theorem dX8_add_17 : decode cX8_add 17 = .ok (.if_icmp .ge 32, 3) := by decide +kernel
theorem dX8_add_20 : decode cX8_add 20 = .ok (.aload_n 0, 1) := by decide +kernel
theorem dX8_add_21 : decode cX8_add 21 = .ok (.getfield 9, 3) := by decide +kernel
theorem dX8_add_24 : decode cX8_add 24 = .ok (.iload_n 3, 1) := by decide +kernel
theorem dX8_add_25 : decode cX8_add 25 = .ok (.dup2, 1) := by decide +kernel
theorem dX8_add_26 : decode cX8_add 26 = .ok (.baload, 1) := by decide +kernel
theorem dX8_add_27 : decode cX8_add 27 = .ok (.iload_n 3, 1) := by decide +kernel
theorem dX8_add_28 : decode cX8_add 28 = .ok (.iload_n 1, 1) := by decide +kernel
theorem dX8_add_29 : decode cX8_add 29 = .ok (.invokestatic 23, 3) := by decide +kernel
