theorem dX11_wouldOpen_35 : decode cX11_wouldOpen 35 = .ok (.aload_n 0, 1) := by decide +kernel
theorem dX11_wouldOpen_36 : decode cX11_wouldOpen 36 = .ok (.getfield 34, 3) := by decide +kernel
theorem dX11_wouldOpen_39 : decode cX11_wouldOpen 39 = .ok (.iload_n 1, 1) := by decide +kernel
theorem dX11_wouldOpen_40 : decode cX11_wouldOpen 40 = .ok (.iaload, 1) := by decide +kernel
theorem dX11_wouldOpen_41 : decode cX11_wouldOpen 41 = .ok (.goto 4, 3) := by decide +kernel
theorem dX11_wouldOpen_44 : decode cX11_wouldOpen 44 = .ok (.iload_n 2, 1) := by decide +kernel
theorem dX11_wouldOpen_45 : decode cX11_wouldOpen 45 = .ok (.invokevirtual 283, 3) := by decide +kernel
theorem dX11_wouldOpen_48 : decode cX11_wouldOpen 48 = .ok (.ireturn, 1) := by decide +kernel
theorem dX11_bestPlace_0 : decode cX11_bestPlace 0 = .ok (.iconst 0, 1) := by decide +kernel
theorem dX11_bestPlace_1 : decode cX11_bestPlace 1 = .ok (.istore_n 2, 1) := by decide +kernel
theorem dX11_bestPlace_2 : decode cX11_bestPlace 2 = .ok (.iconst 0, 1) := by decide +kernel
theorem dX11_bestPlace_3 : decode cX11_bestPlace 3 = .ok (.istore_n 3, 1) := by decide +kernel
theorem dX11_bestPlace_4 : decode cX11_bestPlace 4 = .ok (.iconst 0, 1) := by decide +kernel
theorem dX11_bestPlace_5 : decode cX11_bestPlace 5 = .ok (.istore 4, 2) := by decide +kernel
theorem dX11_bestPlace_7 : decode cX11_bestPlace 7 = .ok (.iload 4, 2) := by decide +kernel
theorem dX11_bestPlace_9 : decode cX11_bestPlace 9 = .ok (.bipush 10, 2) := by decide +kernel
theorem dX11_bestPlace_11 : decode cX11_bestPlace 11 = .ok (.if_icmp .ge 47, 3) := by decide +kernel
theorem dX11_bestPlace_14 : decode cX11_bestPlace 14 = .ok (.aload_n 0, 1) := by decide +kernel
theorem dX11_bestPlace_15 : decode cX11_bestPlace 15 = .ok (.iload_n 1, 1) := by decide +kernel
theorem dX11_bestPlace_16 : decode cX11_bestPlace 16 = .ok (.iload 4, 2) := by decide +kernel
theorem dX11_bestPlace_18 : decode cX11_bestPlace 18 = .ok (.invokevirtual 283, 3) := by decide +kernel
theorem dX11_bestPlace_21 : decode cX11_bestPlace 21 = .ok (.invokestatic 286, 3) := by decide +kernel
theorem dX11_bestPlace_24 : decode cX11_bestPlace 24 = .ok (.istore 5, 2) := by decide +kernel
theorem dX11_bestPlace_26 : decode cX11_bestPlace 26 = .ok (.iload 5, 2) := by decide +kernel
theorem dX11_bestPlace_28 : decode cX11_bestPlace 28 = .ok (.iload_n 3, 1) := by decide +kernel
theorem dX11_bestPlace_29 : decode cX11_bestPlace 29 = .ok (.if_icmp .le 8, 3) := by decide +kernel
theorem dX11_bestPlace_32 : decode cX11_bestPlace 32 = .ok (.iload 4, 2) := by decide +kernel
theorem dX11_bestPlace_34 : decode cX11_bestPlace 34 = .ok (.goto 4, 3) := by decide +kernel
theorem dX11_bestPlace_37 : decode cX11_bestPlace 37 = .ok (.iload_n 2, 1) := by decide +kernel
theorem dX11_bestPlace_38 : decode cX11_bestPlace 38 = .ok (.istore_n 2, 1) := by decide +kernel
theorem dX11_bestPlace_39 : decode cX11_bestPlace 39 = .ok (.iload 5, 2) := by decide +kernel
theorem dX11_bestPlace_41 : decode cX11_bestPlace 41 = .ok (.iload_n 3, 1) := by decide +kernel
theorem dX11_bestPlace_42 : decode cX11_bestPlace 42 = .ok (.if_icmp .le 8, 3) := by decide +kernel
theorem dX11_bestPlace_45 : decode cX11_bestPlace 45 = .ok (.iload 5, 2) := by decide +kernel
theorem dX11_bestPlace_47 : decode cX11_bestPlace 47 = .ok (.goto 4, 3) := by decide +kernel
theorem dX11_bestPlace_50 : decode cX11_bestPlace 50 = .ok (.iload_n 3, 1) := by decide +kernel
theorem dX11_bestPlace_51 : decode cX11_bestPlace 51 = .ok (.istore_n 3, 1) := by decide +kernel
theorem dX11_bestPlace_52 : decode cX11_bestPlace 52 = .ok (.iinc 4 1, 3) := by decide +kernel
theorem dX11_bestPlace_55 : decode cX11_bestPlace 55 = .ok (.goto (-48), 3) := by decide +kernel
theorem dX11_bestPlace_58 : decode cX11_bestPlace 58 = .ok (.iload_n 2, 1) := by decide +kernel
theorem dX11_bestPlace_59 : decode cX11_bestPlace 59 = .ok (.ireturn, 1) := by decide +kernel
theorem dX11_ahead_0 : decode cX11_ahead 0 = .ok (.aload_n 0, 1) := by decide +kernel
theorem dX11_ahead_1 : decode cX11_ahead 1 = .ok (.iload_n 1, 1) := by decide +kernel
theorem dX11_ahead_2 : decode cX11_ahead 2 = .ok (.invokevirtual 242, 3) := by decide +kernel
theorem dX11_ahead_5 : decode cX11_ahead 5 = .ok (.ifCond .eq 20, 3) := by decide +kernel
theorem dX11_ahead_8 : decode cX11_ahead 8 = .ok (.aload_n 0, 1) := by decide +kernel
theorem dX11_ahead_9 : decode cX11_ahead 9 = .ok (.iload_n 2, 1) := by decide +kernel
theorem dX11_ahead_10 : decode cX11_ahead 10 = .ok (.invokevirtual 233, 3) := by decide +kernel
theorem dX11_ahead_13 : decode cX11_ahead 13 = .ok (.ifCond .eq 12, 3) := by decide +kernel
theorem dX11_ahead_16 : decode cX11_ahead 16 = .ok (.aload_n 0, 1) := by decide +kernel
theorem dX11_ahead_17 : decode cX11_ahead 17 = .ok (.iload_n 1, 1) := by decide +kernel
theorem dX11_ahead_18 : decode cX11_ahead 18 = .ok (.iload_n 2, 1) := by decide +kernel
theorem dX11_ahead_19 : decode cX11_ahead 19 = .ok (.invokevirtual 289, 3) := by decide +kernel
theorem dX11_ahead_22 : decode cX11_ahead 22 = .ok (.goto 5, 3) := by decide +kernel
theorem dX11_ahead_25 : decode cX11_ahead 25 = .ok (.ldc 237, 2) := by decide +kernel
theorem dX11_ahead_27 : decode cX11_ahead 27 = .ok (.ireturn, 1) := by decide +kernel
theorem dX11_opensNextTo_0 : decode cX11_opensNextTo 0 = .ok (.aload_n 0, 1) := by decide +kernel
theorem dX11_opensNextTo_1 : decode cX11_opensNextTo 1 = .ok (.iload_n 2, 1) := by decide +kernel
theorem dX11_opensNextTo_2 : decode cX11_opensNextTo 2 = .ok (.invokevirtual 224, 3) := by decide +kernel
theorem dX11_opensNextTo_5 : decode cX11_opensNextTo 5 = .ok (.aload_n 0, 1) := by decide +kernel
theorem dX11_opensNextTo_6 : decode cX11_opensNextTo 6 = .ok (.iload_n 1, 1) := by decide +kernel
theorem dX11_opensNextTo_7 : decode cX11_opensNextTo 7 = .ok (.aload_n 0, 1) := by decide +kernel
theorem dX11_opensNextTo_8 : decode cX11_opensNextTo 8 = .ok (.getfield 28, 3) := by decide +kernel
theorem dX11_opensNextTo_11 : decode cX11_opensNextTo 11 = .ok (.iload_n 2, 1) := by decide +kernel
theorem dX11_opensNextTo_12 : decode cX11_opensNextTo 12 = .ok (.iaload, 1) := by decide +kernel
theorem dX11_opensNextTo_13 : decode cX11_opensNextTo 13 = .ok (.aload_n 0, 1) := by decide +kernel
theorem dX11_opensNextTo_14 : decode cX11_opensNextTo 14 = .ok (.getfield 34, 3) := by decide +kernel
theorem dX11_opensNextTo_17 : decode cX11_opensNextTo 17 = .ok (.iconst 5, 1) := by decide +kernel
theorem dX11_opensNextTo_18 : decode cX11_opensNextTo 18 = .ok (.iload_n 2, 1) := by decide +kernel
theorem dX11_opensNextTo_19 : decode cX11_opensNextTo 19 = .ok (.iadd, 1) := by decide +kernel
theorem dX11_opensNextTo_20 : decode cX11_opensNextTo 20 = .ok (.iaload, 1) := by decide +kernel
theorem dX11_opensNextTo_21 : decode cX11_opensNextTo 21 = .ok (.invokestatic 193, 3) := by decide +kernel
theorem dX11_opensNextTo_24 : decode cX11_opensNextTo 24 = .ok (.invokevirtual 214, 3) := by decide +kernel
theorem dX11_opensNextTo_27 : decode cX11_opensNextTo 27 = .ok (.istore_n 3, 1) := by decide +kernel
theorem dX11_opensNextTo_28 : decode cX11_opensNextTo 28 = .ok (.aload_n 0, 1) := by decide +kernel
theorem dX11_opensNextTo_29 : decode cX11_opensNextTo 29 = .ok (.getfield 19, 3) := by decide +kernel
theorem dX11_opensNextTo_32 : decode cX11_opensNextTo 32 = .ok (.iload_n 2, 1) := by decide +kernel
theorem dX11_opensNextTo_33 : decode cX11_opensNextTo 33 = .ok (.iaload, 1) := by decide +kernel
theorem dX11_opensNextTo_34 : decode cX11_opensNextTo 34 = .ok (.iconst 1, 1) := by decide +kernel
theorem dX11_opensNextTo_35 : decode cX11_opensNextTo 35 = .ok (.if_icmp .ne 43, 3) := by decide +kernel
theorem dX11_opensNextTo_38 : decode cX11_opensNextTo 38 = .ok (.aload_n 0, 1) := by decide +kernel
theorem dX11_opensNextTo_39 : decode cX11_opensNextTo 39 = .ok (.iload_n 2, 1) := by decide +kernel
theorem dX11_opensNextTo_40 : decode cX11_opensNextTo 40 = .ok (.invokevirtual 224, 3) := by decide +kernel
theorem dX11_opensNextTo_43 : decode cX11_opensNextTo 43 = .ok (.aload_n 0, 1) := by decide +kernel
theorem dX11_opensNextTo_44 : decode cX11_opensNextTo 44 = .ok (.iload_n 1, 1) := by decide +kernel
theorem dX11_opensNextTo_45 : decode cX11_opensNextTo 45 = .ok (.aload_n 0, 1) := by decide +kernel
theorem dX11_opensNextTo_46 : decode cX11_opensNextTo 46 = .ok (.getfield 28, 3) := by decide +kernel
theorem dX11_opensNextTo_49 : decode cX11_opensNextTo 49 = .ok (.iload_n 2, 1) := by decide +kernel
theorem dX11_opensNextTo_50 : decode cX11_opensNextTo 50 = .ok (.iaload, 1) := by decide +kernel
theorem dX11_opensNextTo_51 : decode cX11_opensNextTo 51 = .ok (.aload_n 0, 1) := by decide +kernel
theorem dX11_opensNextTo_52 : decode cX11_opensNextTo 52 = .ok (.getfield 34, 3) := by decide +kernel
theorem dX11_opensNextTo_55 : decode cX11_opensNextTo 55 = .ok (.iconst 5, 1) := by decide +kernel
theorem dX11_opensNextTo_56 : decode cX11_opensNextTo 56 = .ok (.iload_n 2, 1) := by decide +kernel
theorem dX11_opensNextTo_57 : decode cX11_opensNextTo 57 = .ok (.iadd, 1) := by decide +kernel
theorem dX11_opensNextTo_58 : decode cX11_opensNextTo 58 = .ok (.iaload, 1) := by decide +kernel
theorem dX11_opensNextTo_59 : decode cX11_opensNextTo 59 = .ok (.invokestatic 193, 3) := by decide +kernel
theorem dX11_opensNextTo_62 : decode cX11_opensNextTo 62 = .ok (.invokevirtual 214, 3) := by decide +kernel
theorem dX11_opensNextTo_65 : decode cX11_opensNextTo 65 = .ok (.ifCond .ne 7, 3) := by decide +kernel
theorem dX11_opensNextTo_68 : decode cX11_opensNextTo 68 = .ok (.iload_n 3, 1) := by decide +kernel
theorem dX11_opensNextTo_69 : decode cX11_opensNextTo 69 = .ok (.ifCond .eq 7, 3) := by decide +kernel
theorem dX11_opensNextTo_72 : decode cX11_opensNextTo 72 = .ok (.iconst 1, 1) := by decide +kernel
theorem dX11_opensNextTo_73 : decode cX11_opensNextTo 73 = .ok (.goto 4, 3) := by decide +kernel
theorem dX11_opensNextTo_76 : decode cX11_opensNextTo 76 = .ok (.iconst 0, 1) := by decide +kernel
theorem dX11_opensNextTo_77 : decode cX11_opensNextTo 77 = .ok (.istore_n 3, 1) := by decide +kernel
theorem dX11_opensNextTo_78 : decode cX11_opensNextTo 78 = .ok (.iload_n 3, 1) := by decide +kernel
theorem dX11_opensNextTo_79 : decode cX11_opensNextTo 79 = .ok (.ireturn, 1) := by decide +kernel
theorem dX11_locked_0 : decode cX11_locked 0 = .ok (.aload_n 0, 1) := by decide +kernel
theorem dX11_locked_1 : decode cX11_locked 1 = .ok (.iload_n 1, 1) := by decide +kernel
theorem dX11_locked_2 : decode cX11_locked 2 = .ok (.invokevirtual 242, 3) := by decide +kernel
theorem dX11_locked_5 : decode cX11_locked 5 = .ok (.ifCond .eq 11, 3) := by decide +kernel
theorem dX11_locked_8 : decode cX11_locked 8 = .ok (.aload_n 0, 1) := by decide +kernel
theorem dX11_locked_9 : decode cX11_locked 9 = .ok (.iload_n 2, 1) := by decide +kernel
theorem dX11_locked_10 : decode cX11_locked 10 = .ok (.invokevirtual 233, 3) := by decide +kernel
theorem dX11_locked_13 : decode cX11_locked 13 = .ok (.ifCond .ne 6, 3) := by decide +kernel
theorem dX11_locked_16 : decode cX11_locked 16 = .ok (.ldc 237, 2) := by decide +kernel
theorem dX11_locked_18 : decode cX11_locked 18 = .ok (.ireturn, 1) := by decide +kernel
theorem dX11_locked_19 : decode cX11_locked 19 = .ok (.aload_n 0, 1) := by decide +kernel
theorem dX11_locked_20 : decode cX11_locked 20 = .ok (.invokevirtual 275, 3) := by decide +kernel
theorem dX11_locked_23 : decode cX11_locked 23 = .ok (.iconst (-1), 1) := by decide +kernel
theorem dX11_locked_24 : decode cX11_locked 24 = .ok (.istore_n 3, 1) := by decide +kernel
theorem dX11_locked_25 : decode cX11_locked 25 = .ok (.iconst 0, 1) := by decide +kernel
theorem dX11_locked_26 : decode cX11_locked 26 = .ok (.istore 4, 2) := by decide +kernel
theorem dX11_locked_28 : decode cX11_locked 28 = .ok (.iload 4, 2) := by decide +kernel
theorem dX11_locked_30 : decode cX11_locked 30 = .ok (.bipush 60, 2) := by decide +kernel
theorem dX11_locked_32 : decode cX11_locked 32 = .ok (.if_icmp .gt 97, 3) := by decide +kernel
theorem dX11_locked_35 : decode cX11_locked 35 = .ok (.iload_n 3, 1) := by decide +kernel
theorem dX11_locked_36 : decode cX11_locked 36 = .ok (.ifCond .ge 93, 3) := by decide +kernel
theorem dX11_locked_39 : decode cX11_locked 39 = .ok (.iconst 0, 1) := by decide +kernel
theorem dX11_locked_40 : decode cX11_locked 40 = .ok (.istore 5, 2) := by decide +kernel
theorem dX11_locked_42 : decode cX11_locked 42 = .ok (.iload 5, 2) := by decide +kernel
theorem dX11_locked_44 : decode cX11_locked 44 = .ok (.iload 4, 2) := by decide +kernel
theorem dX11_locked_46 : decode cX11_locked 46 = .ok (.if_icmp .ge 57, 3) := by decide +kernel
theorem dX11_locked_49 : decode cX11_locked 49 = .ok (.aload_n 0, 1) := by decide +kernel
theorem dX11_locked_50 : decode cX11_locked 50 = .ok (.iload_n 2, 1) := by decide +kernel
theorem dX11_locked_51 : decode cX11_locked 51 = .ok (.invokevirtual 224, 3) := by decide +kernel
theorem dX11_locked_54 : decode cX11_locked 54 = .ok (.aload_n 0, 1) := by decide +kernel
theorem dX11_locked_55 : decode cX11_locked 55 = .ok (.getfield 34, 3) := by decide +kernel
theorem dX11_locked_58 : decode cX11_locked 58 = .ok (.iconst 5, 1) := by decide +kernel
theorem dX11_locked_59 : decode cX11_locked 59 = .ok (.iload_n 2, 1) := by decide +kernel
theorem dX11_locked_60 : decode cX11_locked 60 = .ok (.iadd, 1) := by decide +kernel
theorem dX11_locked_61 : decode cX11_locked 61 = .ok (.aload_n 0, 1) := by decide +kernel
theorem dX11_locked_62 : decode cX11_locked 62 = .ok (.getfield 19, 3) := by decide +kernel
theorem dX11_locked_65 : decode cX11_locked 65 = .ok (.iload_n 2, 1) := by decide +kernel
theorem dX11_locked_66 : decode cX11_locked 66 = .ok (.iaload, 1) := by decide +kernel
theorem dX11_locked_67 : decode cX11_locked 67 = .ok (.iconst 1, 1) := by decide +kernel
theorem dX11_locked_68 : decode cX11_locked 68 = .ok (.if_icmp .ne 20, 3) := by decide +kernel
theorem dX11_locked_71 : decode cX11_locked 71 = .ok (.aload_n 0, 1) := by decide +kernel
theorem dX11_locked_72 : decode cX11_locked 72 = .ok (.getfield 34, 3) := by decide +kernel
theorem dX11_locked_75 : decode cX11_locked 75 = .ok (.iconst 5, 1) := by decide +kernel
theorem dX11_locked_76 : decode cX11_locked 76 = .ok (.iload_n 2, 1) := by decide +kernel
theorem dX11_locked_77 : decode cX11_locked 77 = .ok (.iadd, 1) := by decide +kernel
theorem dX11_locked_78 : decode cX11_locked 78 = .ok (.iaload, 1) := by decide +kernel
theorem dX11_locked_79 : decode cX11_locked 79 = .ok (.iconst 1, 1) := by decide +kernel
theorem dX11_locked_80 : decode cX11_locked 80 = .ok (.iadd, 1) := by decide +kernel
theorem dX11_locked_81 : decode cX11_locked 81 = .ok (.sipush 10000, 3) := by decide +kernel
theorem dX11_locked_84 : decode cX11_locked 84 = .ok (.irem, 1) := by decide +kernel
theorem dX11_locked_85 : decode cX11_locked 85 = .ok (.goto 11, 3) := by decide +kernel
theorem dX11_locked_88 : decode cX11_locked 88 = .ok (.aload_n 0, 1) := by decide +kernel
theorem dX11_locked_89 : decode cX11_locked 89 = .ok (.getfield 34, 3) := by decide +kernel
theorem dX11_locked_92 : decode cX11_locked 92 = .ok (.iconst 5, 1) := by decide +kernel
theorem dX11_locked_93 : decode cX11_locked 93 = .ok (.iload_n 2, 1) := by decide +kernel
theorem dX11_locked_94 : decode cX11_locked 94 = .ok (.iadd, 1) := by decide +kernel
theorem dX11_locked_95 : decode cX11_locked 95 = .ok (.iaload, 1) := by decide +kernel
theorem dX11_locked_96 : decode cX11_locked 96 = .ok (.iastore, 1) := by decide +kernel
theorem dX11_locked_97 : decode cX11_locked 97 = .ok (.iinc 5 1, 3) := by decide +kernel
theorem dX11_locked_100 : decode cX11_locked 100 = .ok (.goto (-58), 3) := by decide +kernel
theorem dX11_locked_103 : decode cX11_locked 103 = .ok (.aload_n 0, 1) := by decide +kernel
theorem dX11_locked_104 : decode cX11_locked 104 = .ok (.iload_n 1, 1) := by decide +kernel
theorem dX11_locked_105 : decode cX11_locked 105 = .ok (.iload_n 2, 1) := by decide +kernel
theorem dX11_locked_106 : decode cX11_locked 106 = .ok (.invokevirtual 292, 3) := by decide +kernel
theorem dX11_locked_109 : decode cX11_locked 109 = .ok (.ifCond .eq 7, 3) := by decide +kernel
theorem dX11_locked_112 : decode cX11_locked 112 = .ok (.iconst (-1), 1) := by decide +kernel
theorem dX11_locked_113 : decode cX11_locked 113 = .ok (.goto 5, 3) := by decide +kernel
theorem dX11_locked_116 : decode cX11_locked 116 = .ok (.iload 4, 2) := by decide +kernel
theorem dX11_locked_118 : decode cX11_locked 118 = .ok (.istore_n 3, 1) := by decide +kernel
theorem dX11_locked_119 : decode cX11_locked 119 = .ok (.aload_n 0, 1) := by decide +kernel
theorem dX11_locked_120 : decode cX11_locked 120 = .ok (.invokevirtual 278, 3) := by decide +kernel
theorem dX11_locked_123 : decode cX11_locked 123 = .ok (.iinc 4 1, 3) := by decide +kernel
theorem dX11_locked_126 : decode cX11_locked 126 = .ok (.goto (-98), 3) := by decide +kernel
theorem dX11_locked_129 : decode cX11_locked 129 = .ok (.iload_n 3, 1) := by decide +kernel
theorem dX11_locked_130 : decode cX11_locked 130 = .ok (.ireturn, 1) := by decide +kernel
theorem dX11_takes_0 : decode cX11_takes 0 = .ok (.aload_n 0, 1) := by decide +kernel
theorem dX11_takes_1 : decode cX11_takes 1 = .ok (.iload_n 1, 1) := by decide +kernel
theorem dX11_takes_2 : decode cX11_takes 2 = .ok (.invokevirtual 242, 3) := by decide +kernel
theorem dX11_takes_5 : decode cX11_takes 5 = .ok (.ifCond .eq 11, 3) := by decide +kernel
theorem dX11_takes_8 : decode cX11_takes 8 = .ok (.aload_n 0, 1) := by decide +kernel
theorem dX11_takes_9 : decode cX11_takes 9 = .ok (.iload_n 2, 1) := by decide +kernel
theorem dX11_takes_10 : decode cX11_takes 10 = .ok (.invokevirtual 233, 3) := by decide +kernel
theorem dX11_takes_13 : decode cX11_takes 13 = .ok (.ifCond .ne 6, 3) := by decide +kernel
theorem dX11_takes_16 : decode cX11_takes 16 = .ok (.ldc 237, 2) := by decide +kernel
theorem dX11_takes_18 : decode cX11_takes 18 = .ok (.ireturn, 1) := by decide +kernel
theorem dX11_takes_19 : decode cX11_takes 19 = .ok (.aload_n 0, 1) := by decide +kernel
theorem dX11_takes_20 : decode cX11_takes 20 = .ok (.invokevirtual 275, 3) := by decide +kernel
theorem dX11_takes_23 : decode cX11_takes 23 = .ok (.iconst (-1), 1) := by decide +kernel
theorem dX11_takes_24 : decode cX11_takes 24 = .ok (.istore_n 3, 1) := by decide +kernel
theorem dX11_takes_25 : decode cX11_takes 25 = .ok (.iconst 1, 1) := by decide +kernel
theorem dX11_takes_26 : decode cX11_takes 26 = .ok (.istore 4, 2) := by decide +kernel
theorem dX11_takes_28 : decode cX11_takes 28 = .ok (.iload 4, 2) := by decide +kernel
theorem dX11_takes_30 : decode cX11_takes 30 = .ok (.bipush 10, 2) := by decide +kernel
theorem dX11_takes_32 : decode cX11_takes 32 = .ok (.if_icmp .gt 29, 3) := by decide +kernel
theorem dX11_takes_35 : decode cX11_takes 35 = .ok (.iload_n 3, 1) := by decide +kernel
theorem dX11_takes_36 : decode cX11_takes 36 = .ok (.ifCond .ge 25, 3) := by decide +kernel
theorem dX11_takes_39 : decode cX11_takes 39 = .ok (.aload_n 0, 1) := by decide +kernel
theorem dX11_takes_40 : decode cX11_takes 40 = .ok (.iload_n 1, 1) := by decide +kernel
theorem dX11_takes_41 : decode cX11_takes 41 = .ok (.iload_n 2, 1) := by decide +kernel
theorem dX11_takes_42 : decode cX11_takes 42 = .ok (.invokevirtual 292, 3) := by decide +kernel
theorem dX11_takes_45 : decode cX11_takes 45 = .ok (.ifCond .eq 8, 3) := by decide +kernel
theorem dX11_takes_48 : decode cX11_takes 48 = .ok (.iload 4, 2) := by decide +kernel
theorem dX11_takes_50 : decode cX11_takes 50 = .ok (.goto 4, 3) := by decide +kernel
theorem dX11_takes_53 : decode cX11_takes 53 = .ok (.iconst (-1), 1) := by decide +kernel
theorem dX11_takes_54 : decode cX11_takes 54 = .ok (.istore_n 3, 1) := by decide +kernel
theorem dX11_takes_55 : decode cX11_takes 55 = .ok (.iinc 4 1, 3) := by decide +kernel
theorem dX11_takes_58 : decode cX11_takes 58 = .ok (.goto (-30), 3) := by decide +kernel
theorem dX11_takes_61 : decode cX11_takes 61 = .ok (.aload_n 0, 1) := by decide +kernel
theorem dX11_takes_62 : decode cX11_takes 62 = .ok (.invokevirtual 278, 3) := by decide +kernel
theorem dX11_takes_65 : decode cX11_takes 65 = .ok (.iload_n 3, 1) := by decide +kernel
theorem dX11_takes_66 : decode cX11_takes 66 = .ok (.ireturn, 1) := by decide +kernel
theorem dX11_usefulAt_0 : decode cX11_usefulAt 0 = .ok (.iconst 0, 1) := by decide +kernel
theorem dX11_usefulAt_1 : decode cX11_usefulAt 1 = .ok (.istore_n 2, 1) := by decide +kernel
theorem dX11_usefulAt_2 : decode cX11_usefulAt 2 = .ok (.iconst 0, 1) := by decide +kernel
theorem dX11_usefulAt_3 : decode cX11_usefulAt 3 = .ok (.istore_n 3, 1) := by decide +kernel
theorem dX11_usefulAt_4 : decode cX11_usefulAt 4 = .ok (.iload_n 3, 1) := by decide +kernel
theorem dX11_usefulAt_5 : decode cX11_usefulAt 5 = .ok (.aload_n 0, 1) := by decide +kernel
theorem dX11_usefulAt_6 : decode cX11_usefulAt 6 = .ok (.getfield 34, 3) := by decide +kernel
theorem dX11_usefulAt_9 : decode cX11_usefulAt 9 = .ok (.bipush 16, 2) := by decide +kernel
theorem dX11_usefulAt_11 : decode cX11_usefulAt 11 = .ok (.iaload, 1) := by decide +kernel
theorem dX11_usefulAt_12 : decode cX11_usefulAt 12 = .ok (.if_icmp .ge 44, 3) := by decide +kernel
theorem dX11_usefulAt_15 : decode cX11_usefulAt 15 = .ok (.aload_n 0, 1) := by decide +kernel
theorem dX11_usefulAt_16 : decode cX11_usefulAt 16 = .ok (.invokevirtual 275, 3) := by decide +kernel
theorem dX11_usefulAt_19 : decode cX11_usefulAt 19 = .ok (.iload_n 2, 1) := by decide +kernel
theorem dX11_usefulAt_20 : decode cX11_usefulAt 20 = .ok (.aload_n 0, 1) := by decide +kernel
theorem dX11_usefulAt_21 : decode cX11_usefulAt 21 = .ok (.iload_n 1, 1) := by decide +kernel
theorem dX11_usefulAt_22 : decode cX11_usefulAt 22 = .ok (.aload_n 0, 1) := by decide +kernel
theorem dX11_usefulAt_23 : decode cX11_usefulAt 23 = .ok (.getfield 34, 3) := by decide +kernel
theorem dX11_usefulAt_26 : decode cX11_usefulAt 26 = .ok (.bipush 17, 2) := by decide +kernel
theorem dX11_usefulAt_28 : decode cX11_usefulAt 28 = .ok (.iload_n 3, 1) := by decide +kernel
theorem dX11_usefulAt_29 : decode cX11_usefulAt 29 = .ok (.iadd, 1) := by decide +kernel
theorem dX11_usefulAt_30 : decode cX11_usefulAt 30 = .ok (.iaload, 1) := by decide +kernel
theorem dX11_usefulAt_31 : decode cX11_usefulAt 31 = .ok (.invokevirtual 214, 3) := by decide +kernel
theorem dX11_usefulAt_34 : decode cX11_usefulAt 34 = .ok (.ifCond .eq 9, 3) := by decide +kernel
theorem dX11_usefulAt_37 : decode cX11_usefulAt 37 = .ok (.iconst 1, 1) := by decide +kernel
theorem dX11_usefulAt_38 : decode cX11_usefulAt 38 = .ok (.iload_n 3, 1) := by decide +kernel
theorem dX11_usefulAt_39 : decode cX11_usefulAt 39 = .ok (.ishl, 1) := by decide +kernel
theorem dX11_usefulAt_40 : decode cX11_usefulAt 40 = .ok (.goto 4, 3) := by decide +kernel
theorem dX11_usefulAt_43 : decode cX11_usefulAt 43 = .ok (.iconst 0, 1) := by decide +kernel
theorem dX11_usefulAt_44 : decode cX11_usefulAt 44 = .ok (.ior, 1) := by decide +kernel
theorem dX11_usefulAt_45 : decode cX11_usefulAt 45 = .ok (.istore_n 2, 1) := by decide +kernel
theorem dX11_usefulAt_46 : decode cX11_usefulAt 46 = .ok (.aload_n 0, 1) := by decide +kernel
theorem dX11_usefulAt_47 : decode cX11_usefulAt 47 = .ok (.invokevirtual 278, 3) := by decide +kernel
theorem dX11_usefulAt_50 : decode cX11_usefulAt 50 = .ok (.iinc 3 1, 3) := by decide +kernel
theorem dX11_usefulAt_53 : decode cX11_usefulAt 53 = .ok (.goto (-49), 3) := by decide +kernel
theorem dX11_usefulAt_56 : decode cX11_usefulAt 56 = .ok (.iload_n 2, 1) := by decide +kernel
theorem dX11_usefulAt_57 : decode cX11_usefulAt 57 = .ok (.ireturn, 1) := by decide +kernel
theorem dX11_inReach_0 : decode cX11_inReach 0 = .ok (.iconst 0, 1) := by decide +kernel
theorem dX11_inReach_1 : decode cX11_inReach 1 = .ok (.istore_n 1, 1) := by decide +kernel
theorem dX11_inReach_2 : decode cX11_inReach 2 = .ok (.iconst 0, 1) := by decide +kernel
theorem dX11_inReach_3 : decode cX11_inReach 3 = .ok (.istore_n 2, 1) := by decide +kernel
theorem dX11_inReach_4 : decode cX11_inReach 4 = .ok (.iload_n 2, 1) := by decide +kernel
theorem dX11_inReach_5 : decode cX11_inReach 5 = .ok (.aload_n 0, 1) := by decide +kernel
theorem dX11_inReach_6 : decode cX11_inReach 6 = .ok (.getfield 99, 3) := by decide +kernel
theorem dX11_inReach_9 : decode cX11_inReach 9 = .ok (.if_icmp .ge 56, 3) := by decide +kernel
theorem dX11_inReach_12 : decode cX11_inReach 12 = .ok (.iload_n 1, 1) := by decide +kernel
theorem dX11_inReach_13 : decode cX11_inReach 13 = .ok (.aload_n 0, 1) := by decide +kernel
theorem dX11_inReach_14 : decode cX11_inReach 14 = .ok (.getfield 34, 3) := by decide +kernel
theorem dX11_inReach_17 : decode cX11_inReach 17 = .ok (.bipush 25, 2) := by decide +kernel
theorem dX11_inReach_19 : decode cX11_inReach 19 = .ok (.iaload, 1) := by decide +kernel
theorem dX11_inReach_20 : decode cX11_inReach 20 = .ok (.iload_n 2, 1) := by decide +kernel
theorem dX11_inReach_21 : decode cX11_inReach 21 = .ok (.invokestatic 208, 3) := by decide +kernel
theorem dX11_inReach_24 : decode cX11_inReach 24 = .ok (.ifCond .ne 32, 3) := by decide +kernel
theorem dX11_inReach_27 : decode cX11_inReach 27 = .ok (.aload_n 0, 1) := by decide +kernel
theorem dX11_inReach_28 : decode cX11_inReach 28 = .ok (.getfield 34, 3) := by decide +kernel
theorem dX11_inReach_31 : decode cX11_inReach 31 = .ok (.bipush 15, 2) := by decide +kernel
theorem dX11_inReach_33 : decode cX11_inReach 33 = .ok (.iaload, 1) := by decide +kernel
theorem dX11_inReach_34 : decode cX11_inReach 34 = .ok (.aload_n 0, 1) := by decide +kernel
theorem dX11_inReach_35 : decode cX11_inReach 35 = .ok (.getfield 13, 3) := by decide +kernel
theorem dX11_inReach_38 : decode cX11_inReach 38 = .ok (.iload_n 2, 1) := by decide +kernel
theorem dX11_inReach_39 : decode cX11_inReach 39 = .ok (.iaload, 1) := by decide +kernel
theorem dX11_inReach_40 : decode cX11_inReach 40 = .ok (.invokestatic 211, 3) := by decide +kernel
theorem dX11_inReach_43 : decode cX11_inReach 43 = .ok (.aload_n 0, 1) := by decide +kernel
theorem dX11_inReach_44 : decode cX11_inReach 44 = .ok (.getfield 166, 3) := by decide +kernel
theorem dX11_inReach_47 : decode cX11_inReach 47 = .ok (.if_icmp .gt 9, 3) := by decide +kernel
theorem dX11_inReach_50 : decode cX11_inReach 50 = .ok (.iconst 1, 1) := by decide +kernel
theorem dX11_inReach_51 : decode cX11_inReach 51 = .ok (.iload_n 2, 1) := by decide +kernel
theorem dX11_inReach_52 : decode cX11_inReach 52 = .ok (.ishl, 1) := by decide +kernel
theorem dX11_inReach_53 : decode cX11_inReach 53 = .ok (.goto 4, 3) := by decide +kernel
theorem dX11_inReach_56 : decode cX11_inReach 56 = .ok (.iconst 0, 1) := by decide +kernel
theorem dX11_inReach_57 : decode cX11_inReach 57 = .ok (.ior, 1) := by decide +kernel
theorem dX11_inReach_58 : decode cX11_inReach 58 = .ok (.istore_n 1, 1) := by decide +kernel
theorem dX11_inReach_59 : decode cX11_inReach 59 = .ok (.iinc 2 1, 3) := by decide +kernel
theorem dX11_inReach_62 : decode cX11_inReach 62 = .ok (.goto (-58), 3) := by decide +kernel
theorem dX11_inReach_65 : decode cX11_inReach 65 = .ok (.iload_n 1, 1) := by decide +kernel
theorem dX11_inReach_66 : decode cX11_inReach 66 = .ok (.ireturn, 1) := by decide +kernel
theorem dX11_opensAll_0 : decode cX11_opensAll 0 = .ok (.aload_n 0, 1) := by decide +kernel
theorem dX11_opensAll_1 : decode cX11_opensAll 1 = .ok (.invokevirtual 275, 3) := by decide +kernel
theorem dX11_opensAll_4 : decode cX11_opensAll 4 = .ok (.iconst 0, 1) := by decide +kernel
theorem dX11_opensAll_5 : decode cX11_opensAll 5 = .ok (.istore_n 3, 1) := by decide +kernel
theorem dX11_opensAll_6 : decode cX11_opensAll 6 = .ok (.iconst 1, 1) := by decide +kernel
theorem dX11_opensAll_7 : decode cX11_opensAll 7 = .ok (.istore 4, 2) := by decide +kernel
theorem dX11_opensAll_9 : decode cX11_opensAll 9 = .ok (.iconst 1, 1) := by decide +kernel
theorem dX11_opensAll_10 : decode cX11_opensAll 10 = .ok (.istore 5, 2) := by decide +kernel
theorem dX11_opensAll_12 : decode cX11_opensAll 12 = .ok (.iload 5, 2) := by decide +kernel
theorem dX11_opensAll_14 : decode cX11_opensAll 14 = .ok (.iload_n 2, 1) := by decide +kernel
theorem dX11_opensAll_15 : decode cX11_opensAll 15 = .ok (.if_icmp .ge 21, 3) := by decide +kernel
theorem dX11_opensAll_18 : decode cX11_opensAll 18 = .ok (.iload 4, 2) := by decide +kernel
theorem dX11_opensAll_20 : decode cX11_opensAll 20 = .ok (.aload_n 0, 1) := by decide +kernel
theorem dX11_opensAll_21 : decode cX11_opensAll 21 = .ok (.getfield 34, 3) := by decide +kernel
theorem dX11_opensAll_24 : decode cX11_opensAll 24 = .ok (.bipush 16, 2) := by decide +kernel
theorem dX11_opensAll_26 : decode cX11_opensAll 26 = .ok (.iaload, 1) := by decide +kernel
theorem dX11_opensAll_27 : decode cX11_opensAll 27 = .ok (.imul, 1) := by decide +kernel
theorem dX11_opensAll_28 : decode cX11_opensAll 28 = .ok (.istore 4, 2) := by decide +kernel
theorem dX11_opensAll_30 : decode cX11_opensAll 30 = .ok (.iinc 5 1, 3) := by decide +kernel
theorem dX11_opensAll_33 : decode cX11_opensAll 33 = .ok (.goto (-21), 3) := by decide +kernel
theorem dX11_opensAll_36 : decode cX11_opensAll 36 = .ok (.iconst 0, 1) := by decide +kernel
theorem dX11_opensAll_37 : decode cX11_opensAll 37 = .ok (.istore 5, 2) := by decide +kernel
theorem dX11_opensAll_39 : decode cX11_opensAll 39 = .ok (.iload 5, 2) := by decide +kernel
theorem dX11_opensAll_41 : decode cX11_opensAll 41 = .ok (.iload_n 2, 1) := by decide +kernel
theorem dX11_opensAll_42 : decode cX11_opensAll 42 = .ok (.if_icmp .ge 82, 3) := by decide +kernel
theorem dX11_opensAll_45 : decode cX11_opensAll 45 = .ok (.iload_n 3, 1) := by decide +kernel
theorem dX11_opensAll_46 : decode cX11_opensAll 46 = .ok (.aload_n 0, 1) := by decide +kernel
theorem dX11_opensAll_47 : decode cX11_opensAll 47 = .ok (.aload_n 0, 1) := by decide +kernel
theorem dX11_opensAll_48 : decode cX11_opensAll 48 = .ok (.getfield 34, 3) := by decide +kernel
theorem dX11_opensAll_51 : decode cX11_opensAll 51 = .ok (.bipush 15, 2) := by decide +kernel
theorem dX11_opensAll_53 : decode cX11_opensAll 53 = .ok (.iaload, 1) := by decide +kernel
theorem dX11_opensAll_54 : decode cX11_opensAll 54 = .ok (.aload_n 0, 1) := by decide +kernel
theorem dX11_opensAll_55 : decode cX11_opensAll 55 = .ok (.getfield 166, 3) := by decide +kernel
theorem dX11_opensAll_58 : decode cX11_opensAll 58 = .ok (.aload_n 0, 1) := by decide +kernel
theorem dX11_opensAll_59 : decode cX11_opensAll 59 = .ok (.getfield 34, 3) := by decide +kernel
theorem dX11_opensAll_62 : decode cX11_opensAll 62 = .ok (.bipush 17, 2) := by decide +kernel
theorem dX11_opensAll_64 : decode cX11_opensAll 64 = .ok (.iload_n 1, 1) := by decide +kernel
theorem dX11_opensAll_65 : decode cX11_opensAll 65 = .ok (.iload 4, 2) := by decide +kernel
theorem dX11_opensAll_67 : decode cX11_opensAll 67 = .ok (.idiv, 1) := by decide +kernel
theorem dX11_opensAll_68 : decode cX11_opensAll 68 = .ok (.aload_n 0, 1) := by decide +kernel
theorem dX11_opensAll_69 : decode cX11_opensAll 69 = .ok (.getfield 34, 3) := by decide +kernel
theorem dX11_opensAll_72 : decode cX11_opensAll 72 = .ok (.bipush 16, 2) := by decide +kernel
theorem dX11_opensAll_74 : decode cX11_opensAll 74 = .ok (.iaload, 1) := by decide +kernel
theorem dX11_opensAll_75 : decode cX11_opensAll 75 = .ok (.irem, 1) := by decide +kernel
theorem dX11_opensAll_76 : decode cX11_opensAll 76 = .ok (.iadd, 1) := by decide +kernel
theorem dX11_opensAll_77 : decode cX11_opensAll 77 = .ok (.iaload, 1) := by decide +kernel
theorem dX11_opensAll_78 : decode cX11_opensAll 78 = .ok (.invokevirtual 217, 3) := by decide +kernel
theorem dX11_opensAll_81 : decode cX11_opensAll 81 = .ok (.ior, 1) := by decide +kernel
theorem dX11_opensAll_82 : decode cX11_opensAll 82 = .ok (.istore_n 3, 1) := by decide +kernel
theorem dX11_opensAll_83 : decode cX11_opensAll 83 = .ok (.iload 4, 2) := by decide +kernel
theorem dX11_opensAll_85 : decode cX11_opensAll 85 = .ok (.aload_n 0, 1) := by decide +kernel
theorem dX11_opensAll_86 : decode cX11_opensAll 86 = .ok (.getfield 34, 3) := by decide +kernel
theorem dX11_opensAll_89 : decode cX11_opensAll 89 = .ok (.bipush 16, 2) := by decide +kernel
theorem dX11_opensAll_91 : decode cX11_opensAll 91 = .ok (.iaload, 1) := by decide +kernel
theorem dX11_opensAll_92 : decode cX11_opensAll 92 = .ok (.iconst 1, 1) := by decide +kernel
theorem dX11_opensAll_93 : decode cX11_opensAll 93 = .ok (.if_icmp .le 21, 3) := by decide +kernel
theorem dX11_opensAll_96 : decode cX11_opensAll 96 = .ok (.iload 5, 2) := by decide +kernel
theorem dX11_opensAll_98 : decode cX11_opensAll 98 = .ok (.iload_n 2, 1) := by decide +kernel
theorem dX11_opensAll_99 : decode cX11_opensAll 99 = .ok (.iconst 1, 1) := by decide +kernel
theorem dX11_opensAll_100 : decode cX11_opensAll 100 = .ok (.isub, 1) := by decide +kernel
theorem dX11_opensAll_101 : decode cX11_opensAll 101 = .ok (.if_icmp .ge 13, 3) := by decide +kernel
theorem dX11_opensAll_104 : decode cX11_opensAll 104 = .ok (.aload_n 0, 1) := by decide +kernel
theorem dX11_opensAll_105 : decode cX11_opensAll 105 = .ok (.getfield 34, 3) := by decide +kernel
theorem dX11_opensAll_108 : decode cX11_opensAll 108 = .ok (.bipush 16, 2) := by decide +kernel
theorem dX11_opensAll_110 : decode cX11_opensAll 110 = .ok (.iaload, 1) := by decide +kernel
theorem dX11_opensAll_111 : decode cX11_opensAll 111 = .ok (.goto 4, 3) := by decide +kernel
theorem dX11_opensAll_114 : decode cX11_opensAll 114 = .ok (.iconst 1, 1) := by decide +kernel
theorem dX11_opensAll_115 : decode cX11_opensAll 115 = .ok (.idiv, 1) := by decide +kernel
theorem dX11_opensAll_116 : decode cX11_opensAll 116 = .ok (.istore 4, 2) := by decide +kernel
theorem dX11_opensAll_118 : decode cX11_opensAll 118 = .ok (.iinc 5 1, 3) := by decide +kernel
theorem dX11_opensAll_121 : decode cX11_opensAll 121 = .ok (.goto (-82), 3) := by decide +kernel
theorem dX11_opensAll_124 : decode cX11_opensAll 124 = .ok (.aload_n 0, 1) := by decide +kernel
theorem dX11_opensAll_125 : decode cX11_opensAll 125 = .ok (.invokevirtual 278, 3) := by decide +kernel
theorem dX11_opensAll_128 : decode cX11_opensAll 128 = .ok (.iload_n 3, 1) := by decide +kernel
theorem dX11_opensAll_129 : decode cX11_opensAll 129 = .ok (.aload_n 0, 1) := by decide +kernel
theorem dX11_opensAll_130 : decode cX11_opensAll 130 = .ok (.invokevirtual 295, 3) := by decide +kernel
theorem dX11_opensAll_133 : decode cX11_opensAll 133 = .ok (.if_icmp .ne 7, 3) := by decide +kernel
theorem dX11_opensAll_136 : decode cX11_opensAll 136 = .ok (.iconst 1, 1) := by decide +kernel
theorem dX11_opensAll_137 : decode cX11_opensAll 137 = .ok (.goto 4, 3) := by decide +kernel
theorem dX11_opensAll_140 : decode cX11_opensAll 140 = .ok (.iconst 0, 1) := by decide +kernel
theorem dX11_opensAll_141 : decode cX11_opensAll 141 = .ok (.ireturn, 1) := by decide +kernel
theorem dX11_findRow_0 : decode cX11_findRow 0 = .ok (.aload_n 0, 1) := by decide +kernel
theorem dX11_findRow_1 : decode cX11_findRow 1 = .ok (.aload_n 0, 1) := by decide +kernel
theorem dX11_findRow_2 : decode cX11_findRow 2 = .ok (.invokevirtual 295, 3) := by decide +kernel
theorem dX11_findRow_5 : decode cX11_findRow 5 = .ok (.ifCond .ne 7, 3) := by decide +kernel
theorem dX11_findRow_8 : decode cX11_findRow 8 = .ok (.iconst 0, 1) := by decide +kernel
theorem dX11_findRow_9 : decode cX11_findRow 9 = .ok (.goto 4, 3) := by decide +kernel
theorem dX11_findRow_12 : decode cX11_findRow 12 = .ok (.iconst (-1), 1) := by decide +kernel
theorem dX11_findRow_13 : decode cX11_findRow 13 = .ok (.putfield 298, 3) := by decide +kernel
theorem dX11_findRow_16 : decode cX11_findRow 16 = .ok (.aload_n 0, 1) := by decide +kernel
theorem dX11_findRow_17 : decode cX11_findRow 17 = .ok (.iconst 0, 1) := by decide +kernel
theorem dX11_findRow_18 : decode cX11_findRow 18 = .ok (.putfield 301, 3) := by decide +kernel
theorem dX11_findRow_21 : decode cX11_findRow 21 = .ok (.iconst 1, 1) := by decide +kernel
theorem dX11_findRow_22 : decode cX11_findRow 22 = .ok (.istore_n 1, 1) := by decide +kernel
theorem dX11_findRow_23 : decode cX11_findRow 23 = .ok (.iconst 1, 1) := by decide +kernel
theorem dX11_findRow_24 : decode cX11_findRow 24 = .ok (.istore_n 2, 1) := by decide +kernel
theorem dX11_findRow_25 : decode cX11_findRow 25 = .ok (.iload_n 2, 1) := by decide +kernel
theorem dX11_findRow_26 : decode cX11_findRow 26 = .ok (.iconst 3, 1) := by decide +kernel
theorem dX11_findRow_27 : decode cX11_findRow 27 = .ok (.if_icmp .gt 73, 3) := by decide +kernel
theorem dX11_findRow_30 : decode cX11_findRow 30 = .ok (.aload_n 0, 1) := by decide +kernel
theorem dX11_findRow_31 : decode cX11_findRow 31 = .ok (.getfield 298, 3) := by decide +kernel
theorem dX11_findRow_34 : decode cX11_findRow 34 = .ok (.ifCond .ge 66, 3) := by decide +kernel
theorem dX11_findRow_37 : decode cX11_findRow 37 = .ok (.iload_n 1, 1) := by decide +kernel
theorem dX11_findRow_38 : decode cX11_findRow 38 = .ok (.aload_n 0, 1) := by decide +kernel
theorem dX11_findRow_39 : decode cX11_findRow 39 = .ok (.getfield 34, 3) := by decide +kernel
theorem dX11_findRow_42 : decode cX11_findRow 42 = .ok (.bipush 16, 2) := by decide +kernel
theorem dX11_findRow_44 : decode cX11_findRow 44 = .ok (.iaload, 1) := by decide +kernel
theorem dX11_findRow_45 : decode cX11_findRow 45 = .ok (.imul, 1) := by decide +kernel
theorem dX11_findRow_46 : decode cX11_findRow 46 = .ok (.istore_n 1, 1) := by decide +kernel
theorem dX11_findRow_47 : decode cX11_findRow 47 = .ok (.iconst 0, 1) := by decide +kernel
theorem dX11_findRow_48 : decode cX11_findRow 48 = .ok (.istore_n 3, 1) := by decide +kernel
theorem dX11_findRow_49 : decode cX11_findRow 49 = .ok (.iload_n 3, 1) := by decide +kernel
theorem dX11_findRow_50 : decode cX11_findRow 50 = .ok (.iload_n 1, 1) := by decide +kernel
theorem dX11_findRow_51 : decode cX11_findRow 51 = .ok (.if_icmp .ge 43, 3) := by decide +kernel
theorem dX11_findRow_54 : decode cX11_findRow 54 = .ok (.aload_n 0, 1) := by decide +kernel
theorem dX11_findRow_55 : decode cX11_findRow 55 = .ok (.getfield 298, 3) := by decide +kernel
theorem dX11_findRow_58 : decode cX11_findRow 58 = .ok (.ifCond .ge 36, 3) := by decide +kernel
theorem dX11_findRow_61 : decode cX11_findRow 61 = .ok (.aload_n 0, 1) := by decide +kernel
theorem dX11_findRow_62 : decode cX11_findRow 62 = .ok (.iload_n 3, 1) := by decide +kernel
theorem dX11_findRow_63 : decode cX11_findRow 63 = .ok (.iload_n 2, 1) := by decide +kernel
theorem dX11_findRow_64 : decode cX11_findRow 64 = .ok (.invokevirtual 304, 3) := by decide +kernel
theorem dX11_findRow_67 : decode cX11_findRow 67 = .ok (.istore 4, 2) := by decide +kernel
theorem dX11_findRow_69 : decode cX11_findRow 69 = .ok (.aload_n 0, 1) := by decide +kernel
theorem dX11_findRow_70 : decode cX11_findRow 70 = .ok (.iload 4, 2) := by decide +kernel
theorem dX11_findRow_72 : decode cX11_findRow 72 = .ok (.ifCond .eq 7, 3) := by decide +kernel
theorem dX11_findRow_75 : decode cX11_findRow 75 = .ok (.iload_n 2, 1) := by decide +kernel
theorem dX11_findRow_76 : decode cX11_findRow 76 = .ok (.goto 4, 3) := by decide +kernel
theorem dX11_findRow_79 : decode cX11_findRow 79 = .ok (.iconst (-1), 1) := by decide +kernel
theorem dX11_findRow_80 : decode cX11_findRow 80 = .ok (.putfield 298, 3) := by decide +kernel
theorem dX11_findRow_83 : decode cX11_findRow 83 = .ok (.aload_n 0, 1) := by decide +kernel
theorem dX11_findRow_84 : decode cX11_findRow 84 = .ok (.iload_n 3, 1) := by decide +kernel
theorem dX11_findRow_85 : decode cX11_findRow 85 = .ok (.putfield 301, 3) := by decide +kernel
theorem dX11_findRow_88 : decode cX11_findRow 88 = .ok (.iinc 3 1, 3) := by decide +kernel
theorem dX11_findRow_91 : decode cX11_findRow 91 = .ok (.goto (-42), 3) := by decide +kernel
theorem dX11_findRow_94 : decode cX11_findRow 94 = .ok (.iinc 2 1, 3) := by decide +kernel
theorem dX11_findRow_97 : decode cX11_findRow 97 = .ok (.goto (-72), 3) := by decide +kernel
theorem dX11_findRow_100 : decode cX11_findRow 100 = .ok (.return_, 1) := by decide +kernel
theorem dX11_row_0 : decode cX11_row 0 = .ok (.aload_n 0, 1) := by decide +kernel
theorem dX11_row_1 : decode cX11_row 1 = .ok (.invokevirtual 307, 3) := by decide +kernel
theorem dX11_row_4 : decode cX11_row 4 = .ok (.iload_n 1, 1) := by decide +kernel
theorem dX11_row_5 : decode cX11_row 5 = .ok (.iconst (-1), 1) := by decide +kernel
theorem dX11_row_6 : decode cX11_row 6 = .ok (.if_icmp .eq 19, 3) := by decide +kernel
theorem dX11_row_9 : decode cX11_row 9 = .ok (.iload_n 1, 1) := by decide +kernel
theorem dX11_row_10 : decode cX11_row 10 = .ok (.i2l, 1) := by decide +kernel
theorem dX11_row_11 : decode cX11_row 11 = .ok (.lconst 0, 1) := by decide +kernel
theorem dX11_row_12 : decode cX11_row 12 = .ok (.aload_n 0, 1) := by decide +kernel
theorem dX11_row_13 : decode cX11_row 13 = .ok (.getfield 298, 3) := by decide +kernel
theorem dX11_row_16 : decode cX11_row 16 = .ok (.iconst 1, 1) := by decide +kernel
theorem dX11_row_17 : decode cX11_row 17 = .ok (.isub, 1) := by decide +kernel
theorem dX11_row_18 : decode cX11_row 18 = .ok (.i2l, 1) := by decide +kernel
theorem dX11_row_19 : decode cX11_row 19 = .ok (.invokestatic 105, 3) := by decide +kernel
theorem dX11_row_22 : decode cX11_row 22 = .ok (.ifCond .ne 17, 3) := by decide +kernel
theorem dX11_row_25 : decode cX11_row 25 = .ok (.iload_n 1, 1) := by decide +kernel
theorem dX11_row_26 : decode cX11_row 26 = .ok (.iconst (-1), 1) := by decide +kernel
theorem dX11_row_27 : decode cX11_row 27 = .ok (.if_icmp .ne 10, 3) := by decide +kernel
theorem dX11_row_30 : decode cX11_row 30 = .ok (.aload_n 0, 1) := by decide +kernel
theorem dX11_row_31 : decode cX11_row 31 = .ok (.getfield 298, 3) := by decide +kernel
theorem dX11_row_34 : decode cX11_row 34 = .ok (.goto 4, 3) := by decide +kernel
theorem dX11_row_37 : decode cX11_row 37 = .ok (.iconst (-1), 1) := by decide +kernel
theorem dX11_row_38 : decode cX11_row 38 = .ok (.ireturn, 1) := by decide +kernel
theorem dX11_row_39 : decode cX11_row 39 = .ok (.aload_n 0, 1) := by decide +kernel
theorem dX11_row_40 : decode cX11_row 40 = .ok (.getfield 301, 3) := by decide +kernel
theorem dX11_row_43 : decode cX11_row 43 = .ok (.istore_n 2, 1) := by decide +kernel
theorem dX11_row_44 : decode cX11_row 44 = .ok (.aload_n 0, 1) := by decide +kernel
theorem dX11_row_45 : decode cX11_row 45 = .ok (.getfield 298, 3) := by decide +kernel
theorem dX11_row_48 : decode cX11_row 48 = .ok (.iconst 1, 1) := by decide +kernel
theorem dX11_row_49 : decode cX11_row 49 = .ok (.isub, 1) := by decide +kernel
theorem dX11_row_50 : decode cX11_row 50 = .ok (.istore_n 3, 1) := by decide +kernel
theorem dX11_row_51 : decode cX11_row 51 = .ok (.iload_n 3, 1) := by decide +kernel
theorem dX11_row_52 : decode cX11_row 52 = .ok (.iload_n 1, 1) := by decide +kernel
theorem dX11_row_53 : decode cX11_row 53 = .ok (.if_icmp .le 19, 3) := by decide +kernel
theorem dX11_row_56 : decode cX11_row 56 = .ok (.iload_n 2, 1) := by decide +kernel
theorem dX11_row_57 : decode cX11_row 57 = .ok (.aload_n 0, 1) := by decide +kernel
theorem dX11_row_58 : decode cX11_row 58 = .ok (.getfield 34, 3) := by decide +kernel
theorem dX11_row_61 : decode cX11_row 61 = .ok (.bipush 16, 2) := by decide +kernel
theorem dX11_row_63 : decode cX11_row 63 = .ok (.iaload, 1) := by decide +kernel
theorem dX11_row_64 : decode cX11_row 64 = .ok (.idiv, 1) := by decide +kernel
theorem dX11_row_65 : decode cX11_row 65 = .ok (.istore_n 2, 1) := by decide +kernel
theorem dX11_row_66 : decode cX11_row 66 = .ok (.iinc 3 (-1), 3) := by decide +kernel
theorem dX11_row_69 : decode cX11_row 69 = .ok (.goto (-18), 3) := by decide +kernel
theorem dX11_row_72 : decode cX11_row 72 = .ok (.iload_n 2, 1) := by decide +kernel
theorem dX11_row_73 : decode cX11_row 73 = .ok (.aload_n 0, 1) := by decide +kernel
theorem dX11_row_74 : decode cX11_row 74 = .ok (.getfield 34, 3) := by decide +kernel
theorem dX11_row_77 : decode cX11_row 77 = .ok (.bipush 16, 2) := by decide +kernel
theorem dX11_row_79 : decode cX11_row 79 = .ok (.iaload, 1) := by decide +kernel
theorem dX11_row_80 : decode cX11_row 80 = .ok (.irem, 1) := by decide +kernel
theorem dX11_row_81 : decode cX11_row 81 = .ok (.ireturn, 1) := by decide +kernel
theorem dX11_couldSend_0 : decode cX11_couldSend 0 = .ok (.aload_n 0, 1) := by decide +kernel
theorem dX11_couldSend_1 : decode cX11_couldSend 1 = .ok (.getfield 19, 3) := by decide +kernel
theorem dX11_couldSend_4 : decode cX11_couldSend 4 = .ok (.iload_n 1, 1) := by decide +kernel
theorem dX11_couldSend_5 : decode cX11_couldSend 5 = .ok (.iaload, 1) := by decide +kernel
theorem dX11_couldSend_6 : decode cX11_couldSend 6 = .ok (.iconst 3, 1) := by decide +kernel
theorem dX11_couldSend_7 : decode cX11_couldSend 7 = .ok (.if_icmp .ne 28, 3) := by decide +kernel
theorem dX11_couldSend_10 : decode cX11_couldSend 10 = .ok (.aload_n 0, 1) := by decide +kernel
theorem dX11_couldSend_11 : decode cX11_couldSend 11 = .ok (.getfield 28, 3) := by decide +kernel
theorem dX11_couldSend_14 : decode cX11_couldSend 14 = .ok (.iload_n 1, 1) := by decide +kernel
theorem dX11_couldSend_15 : decode cX11_couldSend 15 = .ok (.iaload, 1) := by decide +kernel
theorem dX11_couldSend_16 : decode cX11_couldSend 16 = .ok (.aload_n 0, 1) := by decide +kernel
theorem dX11_couldSend_17 : decode cX11_couldSend 17 = .ok (.getfield 34, 3) := by decide +kernel
theorem dX11_couldSend_20 : decode cX11_couldSend 20 = .ok (.iconst 5, 1) := by decide +kernel
theorem dX11_couldSend_21 : decode cX11_couldSend 21 = .ok (.iload_n 1, 1) := by decide +kernel
theorem dX11_couldSend_22 : decode cX11_couldSend 22 = .ok (.iadd, 1) := by decide +kernel
theorem dX11_couldSend_23 : decode cX11_couldSend 23 = .ok (.iaload, 1) := by decide +kernel
theorem dX11_couldSend_24 : decode cX11_couldSend 24 = .ok (.invokestatic 193, 3) := by decide +kernel
theorem dX11_couldSend_27 : decode cX11_couldSend 27 = .ok (.iload_n 2, 1) := by decide +kernel
theorem dX11_couldSend_28 : decode cX11_couldSend 28 = .ok (.if_icmp .ne 7, 3) := by decide +kernel
theorem dX11_couldSend_31 : decode cX11_couldSend 31 = .ok (.iconst 1, 1) := by decide +kernel
theorem dX11_couldSend_32 : decode cX11_couldSend 32 = .ok (.goto 4, 3) := by decide +kernel
theorem dX11_couldSend_35 : decode cX11_couldSend 35 = .ok (.iconst 0, 1) := by decide +kernel
theorem dX11_couldSend_36 : decode cX11_couldSend 36 = .ok (.istore_n 3, 1) := by decide +kernel
theorem dX11_couldSend_37 : decode cX11_couldSend 37 = .ok (.iconst 1, 1) := by decide +kernel
theorem dX11_couldSend_38 : decode cX11_couldSend 38 = .ok (.istore 4, 2) := by decide +kernel
theorem dX11_couldSend_40 : decode cX11_couldSend 40 = .ok (.iload 4, 2) := by decide +kernel
theorem dX11_couldSend_42 : decode cX11_couldSend 42 = .ok (.bipush 40, 2) := by decide +kernel
theorem dX11_couldSend_44 : decode cX11_couldSend 44 = .ok (.if_icmp .gt 57, 3) := by decide +kernel
theorem dX11_couldSend_47 : decode cX11_couldSend 47 = .ok (.aload_n 0, 1) := by decide +kernel
theorem dX11_couldSend_48 : decode cX11_couldSend 48 = .ok (.getfield 19, 3) := by decide +kernel
theorem dX11_couldSend_51 : decode cX11_couldSend 51 = .ok (.iload_n 1, 1) := by decide +kernel
theorem dX11_couldSend_52 : decode cX11_couldSend 52 = .ok (.iaload, 1) := by decide +kernel
theorem dX11_couldSend_53 : decode cX11_couldSend 53 = .ok (.iconst 3, 1) := by decide +kernel
theorem dX11_couldSend_54 : decode cX11_couldSend 54 = .ok (.if_icmp .eq 47, 3) := by decide +kernel
theorem dX11_couldSend_57 : decode cX11_couldSend 57 = .ok (.iload_n 3, 1) := by decide +kernel
theorem dX11_couldSend_58 : decode cX11_couldSend 58 = .ok (.ifCond .ne 31, 3) := by decide +kernel
theorem dX11_couldSend_61 : decode cX11_couldSend 61 = .ok (.aload_n 0, 1) := by decide +kernel
theorem dX11_couldSend_62 : decode cX11_couldSend 62 = .ok (.getfield 28, 3) := by decide +kernel
theorem dX11_couldSend_65 : decode cX11_couldSend 65 = .ok (.iload_n 1, 1) := by decide +kernel
theorem dX11_couldSend_66 : decode cX11_couldSend 66 = .ok (.iaload, 1) := by decide +kernel
theorem dX11_couldSend_67 : decode cX11_couldSend 67 = .ok (.aload_n 0, 1) := by decide +kernel
theorem dX11_couldSend_68 : decode cX11_couldSend 68 = .ok (.getfield 34, 3) := by decide +kernel
theorem dX11_couldSend_71 : decode cX11_couldSend 71 = .ok (.iconst 5, 1) := by decide +kernel
theorem dX11_couldSend_72 : decode cX11_couldSend 72 = .ok (.iload_n 1, 1) := by decide +kernel
theorem dX11_couldSend_73 : decode cX11_couldSend 73 = .ok (.iadd, 1) := by decide +kernel
theorem dX11_couldSend_74 : decode cX11_couldSend 74 = .ok (.iaload, 1) := by decide +kernel
theorem dX11_couldSend_75 : decode cX11_couldSend 75 = .ok (.iload 4, 2) := by decide +kernel
theorem dX11_couldSend_77 : decode cX11_couldSend 77 = .ok (.iadd, 1) := by decide +kernel
theorem dX11_couldSend_78 : decode cX11_couldSend 78 = .ok (.sipush 10000, 3) := by decide +kernel
theorem dX11_couldSend_81 : decode cX11_couldSend 81 = .ok (.irem, 1) := by decide +kernel
theorem dX11_couldSend_82 : decode cX11_couldSend 82 = .ok (.invokestatic 193, 3) := by decide +kernel
theorem dX11_couldSend_85 : decode cX11_couldSend 85 = .ok (.iload_n 2, 1) := by decide +kernel
theorem dX11_couldSend_86 : decode cX11_couldSend 86 = .ok (.if_icmp .ne 7, 3) := by decide +kernel
theorem dX11_couldSend_89 : decode cX11_couldSend 89 = .ok (.iconst 1, 1) := by decide +kernel
theorem dX11_couldSend_90 : decode cX11_couldSend 90 = .ok (.goto 4, 3) := by decide +kernel
theorem dX11_couldSend_93 : decode cX11_couldSend 93 = .ok (.iconst 0, 1) := by decide +kernel
theorem dX11_couldSend_94 : decode cX11_couldSend 94 = .ok (.istore_n 3, 1) := by decide +kernel
theorem dX11_couldSend_95 : decode cX11_couldSend 95 = .ok (.iinc 4 1, 3) := by decide +kernel
theorem dX11_couldSend_98 : decode cX11_couldSend 98 = .ok (.goto (-58), 3) := by decide +kernel
theorem dX11_couldSend_101 : decode cX11_couldSend 101 = .ok (.iload_n 3, 1) := by decide +kernel
theorem dX11_couldSend_102 : decode cX11_couldSend 102 = .ok (.ireturn, 1) := by decide +kernel
theorem dX11_who_0 : decode cX11_who 0 = .ok (.iload_n 1, 1) := by decide +kernel
theorem dX11_who_1 : decode cX11_who 1 = .ok (.i2l, 1) := by decide +kernel
theorem dX11_who_2 : decode cX11_who 2 = .ok (.lconst 0, 1) := by decide +kernel
theorem dX11_who_3 : decode cX11_who 3 = .ok (.ldc2_w 310, 3) := by decide +kernel
theorem dX11_who_6 : decode cX11_who 6 = .ok (.invokestatic 105, 3) := by decide +kernel
theorem dX11_who_9 : decode cX11_who 9 = .ok (.ifCond .ne 6, 3) := by decide +kernel
theorem dX11_who_12 : decode cX11_who 12 = .ok (.ldc 111, 2) := by decide +kernel
theorem dX11_who_14 : decode cX11_who 14 = .ok (.ireturn, 1) := by decide +kernel
theorem dX11_who_15 : decode cX11_who 15 = .ok (.iconst 0, 1) := by decide +kernel
theorem dX11_who_16 : decode cX11_who 16 = .ok (.istore_n 2, 1) := by decide +kernel
theorem dX11_who_17 : decode cX11_who 17 = .ok (.iconst 0, 1) := by decide +kernel
theorem dX11_who_18 : decode cX11_who 18 = .ok (.istore_n 3, 1) := by decide +kernel
theorem dX11_who_19 : decode cX11_who 19 = .ok (.iload_n 3, 1) := by decide +kernel
theorem dX11_who_20 : decode cX11_who 20 = .ok (.aload_n 0, 1) := by decide +kernel
theorem dX11_who_21 : decode cX11_who 21 = .ok (.getfield 102, 3) := by decide +kernel
theorem dX11_who_24 : decode cX11_who 24 = .ok (.if_icmp .ge 28, 3) := by decide +kernel
theorem dX11_who_27 : decode cX11_who 27 = .ok (.iload_n 2, 1) := by decide +kernel
theorem dX11_who_28 : decode cX11_who 28 = .ok (.aload_n 0, 1) := by decide +kernel
theorem dX11_who_29 : decode cX11_who 29 = .ok (.iload_n 3, 1) := by decide +kernel
theorem dX11_who_30 : decode cX11_who 30 = .ok (.iload_n 1, 1) := by decide +kernel
theorem dX11_who_31 : decode cX11_who 31 = .ok (.invokevirtual 312, 3) := by decide +kernel
theorem dX11_who_34 : decode cX11_who 34 = .ok (.ifCond .eq 9, 3) := by decide +kernel
theorem dX11_who_37 : decode cX11_who 37 = .ok (.iconst 1, 1) := by decide +kernel
theorem dX11_who_38 : decode cX11_who 38 = .ok (.iload_n 3, 1) := by decide +kernel
theorem dX11_who_39 : decode cX11_who 39 = .ok (.ishl, 1) := by decide +kernel
theorem dX11_who_40 : decode cX11_who 40 = .ok (.goto 4, 3) := by decide +kernel
theorem dX11_who_43 : decode cX11_who 43 = .ok (.iconst 0, 1) := by decide +kernel
theorem dX11_who_44 : decode cX11_who 44 = .ok (.ior, 1) := by decide +kernel
theorem dX11_who_45 : decode cX11_who 45 = .ok (.istore_n 2, 1) := by decide +kernel
theorem dX11_who_46 : decode cX11_who 46 = .ok (.iinc 3 1, 3) := by decide +kernel
theorem dX11_who_49 : decode cX11_who 49 = .ok (.goto (-30), 3) := by decide +kernel
theorem dX11_who_52 : decode cX11_who 52 = .ok (.iload_n 2, 1) := by decide +kernel
theorem dX11_who_53 : decode cX11_who 53 = .ok (.ireturn, 1) := by decide +kernel
theorem dX11_same_0 : decode cX11_same 0 = .ok (.aload_n 0, 1) := by decide +kernel
theorem dX11_same_1 : decode cX11_same 1 = .ok (.iload_n 1, 1) := by decide +kernel
theorem dX11_same_2 : decode cX11_same 2 = .ok (.invokevirtual 233, 3) := by decide +kernel
theorem dX11_same_5 : decode cX11_same 5 = .ok (.ifCond .eq 16, 3) := by decide +kernel
theorem dX11_same_8 : decode cX11_same 8 = .ok (.aload_n 0, 1) := by decide +kernel
theorem dX11_same_9 : decode cX11_same 9 = .ok (.iload_n 2, 1) := by decide +kernel
theorem dX11_same_10 : decode cX11_same 10 = .ok (.invokevirtual 233, 3) := by decide +kernel
theorem dX11_same_13 : decode cX11_same 13 = .ok (.ifCond .eq 8, 3) := by decide +kernel
theorem dX11_same_16 : decode cX11_same 16 = .ok (.iload_n 1, 1) := by decide +kernel
theorem dX11_same_17 : decode cX11_same 17 = .ok (.iload_n 2, 1) := by decide +kernel
theorem dX11_same_18 : decode cX11_same 18 = .ok (.if_icmp .ne 6, 3) := by decide +kernel
theorem dX11_same_21 : decode cX11_same 21 = .ok (.ldc 237, 2) := by decide +kernel
theorem dX11_same_23 : decode cX11_same 23 = .ok (.ireturn, 1) := by decide +kernel
theorem dX11_same_24 : decode cX11_same 24 = .ok (.iconst 1, 1) := by decide +kernel
theorem dX11_same_25 : decode cX11_same 25 = .ok (.istore_n 3, 1) := by decide +kernel
theorem dX11_same_26 : decode cX11_same 26 = .ok (.iload_n 3, 1) := by decide +kernel
theorem dX11_same_27 : decode cX11_same 27 = .ok (.sipush 200, 3) := by decide +kernel
theorem dX11_same_30 : decode cX11_same 30 = .ok (.if_icmp .gt 68, 3) := by decide +kernel
theorem dX11_same_33 : decode cX11_same 33 = .ok (.aload_n 0, 1) := by decide +kernel
theorem dX11_same_34 : decode cX11_same 34 = .ok (.getfield 28, 3) := by decide +kernel
theorem dX11_same_37 : decode cX11_same 37 = .ok (.iload_n 1, 1) := by decide +kernel
theorem dX11_same_38 : decode cX11_same 38 = .ok (.iaload, 1) := by decide +kernel
theorem dX11_same_39 : decode cX11_same 39 = .ok (.aload_n 0, 1) := by decide +kernel
theorem dX11_same_40 : decode cX11_same 40 = .ok (.getfield 34, 3) := by decide +kernel
theorem dX11_same_43 : decode cX11_same 43 = .ok (.iconst 5, 1) := by decide +kernel
theorem dX11_same_44 : decode cX11_same 44 = .ok (.iload_n 1, 1) := by decide +kernel
theorem dX11_same_45 : decode cX11_same 45 = .ok (.iadd, 1) := by decide +kernel
theorem dX11_same_46 : decode cX11_same 46 = .ok (.iaload, 1) := by decide +kernel
theorem dX11_same_47 : decode cX11_same 47 = .ok (.iload_n 3, 1) := by decide +kernel
theorem dX11_same_48 : decode cX11_same 48 = .ok (.iadd, 1) := by decide +kernel
theorem dX11_same_49 : decode cX11_same 49 = .ok (.sipush 10000, 3) := by decide +kernel
theorem dX11_same_52 : decode cX11_same 52 = .ok (.irem, 1) := by decide +kernel
theorem dX11_same_53 : decode cX11_same 53 = .ok (.invokestatic 193, 3) := by decide +kernel
theorem dX11_same_56 : decode cX11_same 56 = .ok (.istore 4, 2) := by decide +kernel
theorem dX11_same_58 : decode cX11_same 58 = .ok (.aload_n 0, 1) := by decide +kernel
theorem dX11_same_59 : decode cX11_same 59 = .ok (.getfield 28, 3) := by decide +kernel
theorem dX11_same_62 : decode cX11_same 62 = .ok (.iload_n 2, 1) := by decide +kernel
theorem dX11_same_63 : decode cX11_same 63 = .ok (.iaload, 1) := by decide +kernel
theorem dX11_same_64 : decode cX11_same 64 = .ok (.aload_n 0, 1) := by decide +kernel
theorem dX11_same_65 : decode cX11_same 65 = .ok (.getfield 34, 3) := by decide +kernel
theorem dX11_same_68 : decode cX11_same 68 = .ok (.iconst 5, 1) := by decide +kernel
theorem dX11_same_69 : decode cX11_same 69 = .ok (.iload_n 2, 1) := by decide +kernel
theorem dX11_same_70 : decode cX11_same 70 = .ok (.iadd, 1) := by decide +kernel
theorem dX11_same_71 : decode cX11_same 71 = .ok (.iaload, 1) := by decide +kernel
theorem dX11_same_72 : decode cX11_same 72 = .ok (.iload_n 3, 1) := by decide +kernel
theorem dX11_same_73 : decode cX11_same 73 = .ok (.iadd, 1) := by decide +kernel
theorem dX11_same_74 : decode cX11_same 74 = .ok (.sipush 10000, 3) := by decide +kernel
theorem dX11_same_77 : decode cX11_same 77 = .ok (.irem, 1) := by decide +kernel
theorem dX11_same_78 : decode cX11_same 78 = .ok (.invokestatic 193, 3) := by decide +kernel
theorem dX11_same_81 : decode cX11_same 81 = .ok (.istore 5, 2) := by decide +kernel
theorem dX11_same_83 : decode cX11_same 83 = .ok (.iload 4, 2) := by decide +kernel
theorem dX11_same_85 : decode cX11_same 85 = .ok (.iload 5, 2) := by decide +kernel
theorem dX11_same_87 : decode cX11_same 87 = .ok (.if_icmp .ne 5, 3) := by decide +kernel
theorem dX11_same_90 : decode cX11_same 90 = .ok (.iload_n 3, 1) := by decide +kernel
theorem dX11_same_91 : decode cX11_same 91 = .ok (.ireturn, 1) := by decide +kernel
theorem dX11_same_92 : decode cX11_same 92 = .ok (.iinc 3 1, 3) := by decide +kernel
theorem dX11_same_95 : decode cX11_same 95 = .ok (.goto (-69), 3) := by decide +kernel
theorem dX11_same_98 : decode cX11_same 98 = .ok (.iconst (-1), 1) := by decide +kernel
theorem dX11_same_99 : decode cX11_same 99 = .ok (.ireturn, 1) := by decide +kernel
theorem dX11_quiet_0 : decode cX11_quiet 0 = .ok (.iload_n 1, 1) := by decide +kernel
theorem dX11_quiet_1 : decode cX11_quiet 1 = .ok (.i2l, 1) := by decide +kernel
theorem dX11_quiet_2 : decode cX11_quiet 2 = .ok (.lconst 0, 1) := by decide +kernel
theorem dX11_quiet_3 : decode cX11_quiet 3 = .ok (.ldc2_w 270, 3) := by decide +kernel
theorem dX11_quiet_6 : decode cX11_quiet 6 = .ok (.invokestatic 105, 3) := by decide +kernel
theorem dX11_quiet_9 : decode cX11_quiet 9 = .ok (.ifCond .eq 15, 3) := by decide +kernel
theorem dX11_quiet_12 : decode cX11_quiet 12 = .ok (.iload_n 2, 1) := by decide +kernel
theorem dX11_quiet_13 : decode cX11_quiet 13 = .ok (.i2l, 1) := by decide +kernel
theorem dX11_quiet_14 : decode cX11_quiet 14 = .ok (.lconst 0, 1) := by decide +kernel
theorem dX11_quiet_15 : decode cX11_quiet 15 = .ok (.ldc2_w 315, 3) := by decide +kernel
theorem dX11_quiet_18 : decode cX11_quiet 18 = .ok (.invokestatic 105, 3) := by decide +kernel
theorem dX11_quiet_21 : decode cX11_quiet 21 = .ok (.ifCond .ne 6, 3) := by decide +kernel
theorem dX11_quiet_24 : decode cX11_quiet 24 = .ok (.ldc 111, 2) := by decide +kernel
theorem dX11_quiet_26 : decode cX11_quiet 26 = .ok (.ireturn, 1) := by decide +kernel
theorem dX11_quiet_27 : decode cX11_quiet 27 = .ok (.ldc2_w 317, 3) := by decide +kernel
theorem dX11_quiet_30 : decode cX11_quiet 30 = .ok (.lstore_n 3, 1) := by decide +kernel
theorem dX11_quiet_31 : decode cX11_quiet 31 = .ok (.iconst 0, 1) := by decide +kernel
theorem dX11_quiet_32 : decode cX11_quiet 32 = .ok (.istore 5, 2) := by decide +kernel
theorem dX11_quiet_34 : decode cX11_quiet 34 = .ok (.iload 5, 2) := by decide +kernel
theorem dX11_quiet_36 : decode cX11_quiet 36 = .ok (.iload_n 1, 1) := by decide +kernel
theorem dX11_quiet_37 : decode cX11_quiet 37 = .ok (.if_icmp .ge 18, 3) := by decide +kernel
theorem dX11_quiet_40 : decode cX11_quiet 40 = .ok (.lload_n 3, 1) := by decide +kernel
theorem dX11_quiet_41 : decode cX11_quiet 41 = .ok (.iload_n 2, 1) := by decide +kernel
theorem dX11_quiet_42 : decode cX11_quiet 42 = .ok (.i2l, 1) := by decide +kernel
theorem dX11_quiet_43 : decode cX11_quiet 43 = .ok (.lmul, 1) := by decide +kernel
theorem dX11_quiet_44 : decode cX11_quiet 44 = .ok (.ldc2_w 315, 3) := by decide +kernel
theorem dX11_quiet_47 : decode cX11_quiet 47 = .ok (.ldiv, 1) := by decide +kernel
theorem dX11_quiet_48 : decode cX11_quiet 48 = .ok (.lstore_n 3, 1) := by decide +kernel
theorem dX11_quiet_49 : decode cX11_quiet 49 = .ok (.iinc 5 1, 3) := by decide +kernel
theorem dX11_quiet_52 : decode cX11_quiet 52 = .ok (.goto (-18), 3) := by decide +kernel
theorem dX11_quiet_55 : decode cX11_quiet 55 = .ok (.lload_n 3, 1) := by decide +kernel
theorem dX11_quiet_56 : decode cX11_quiet 56 = .ok (.l2i, 1) := by decide +kernel
theorem dX11_quiet_57 : decode cX11_quiet 57 = .ok (.ireturn, 1) := by decide +kernel
theorem dX11_see_0 : decode cX11_see 0 = .ok (.iload_n 1, 1) := by decide +kernel
theorem dX11_see_1 : decode cX11_see 1 = .ok (.i2l, 1) := by decide +kernel
theorem dX11_see_2 : decode cX11_see 2 = .ok (.lconst 0, 1) := by decide +kernel
theorem dX11_see_3 : decode cX11_see 3 = .ok (.ldc2_w 319, 3) := by decide +kernel
theorem dX11_see_6 : decode cX11_see 6 = .ok (.invokestatic 105, 3) := by decide +kernel
theorem dX11_see_9 : decode cX11_see 9 = .ok (.ifCond .eq 15, 3) := by decide +kernel
theorem dX11_see_12 : decode cX11_see 12 = .ok (.iload_n 2, 1) := by decide +kernel
theorem dX11_see_13 : decode cX11_see 13 = .ok (.i2l, 1) := by decide +kernel
theorem dX11_see_14 : decode cX11_see 14 = .ok (.lconst 0, 1) := by decide +kernel
theorem dX11_see_15 : decode cX11_see 15 = .ok (.ldc2_w 310, 3) := by decide +kernel
theorem dX11_see_18 : decode cX11_see 18 = .ok (.invokestatic 105, 3) := by decide +kernel
theorem dX11_see_21 : decode cX11_see 21 = .ok (.ifCond .ne 6, 3) := by decide +kernel
theorem dX11_see_24 : decode cX11_see 24 = .ok (.ldc 111, 2) := by decide +kernel
theorem dX11_see_26 : decode cX11_see 26 = .ok (.ireturn, 1) := by decide +kernel
theorem dX11_see_27 : decode cX11_see 27 = .ok (.aload_n 0, 1) := by decide +kernel
theorem dX11_see_28 : decode cX11_see 28 = .ok (.getfield 182, 3) := by decide +kernel
theorem dX11_see_31 : decode cX11_see 31 = .ok (.bipush 6, 2) := by decide +kernel
theorem dX11_see_33 : decode cX11_see 33 = .ok (.if_icmp .ne 6, 3) := by decide +kernel
theorem dX11_see_36 : decode cX11_see 36 = .ok (.ldc 115, 2) := by decide +kernel
theorem dX11_see_38 : decode cX11_see 38 = .ok (.ireturn, 1) := by decide +kernel
theorem dX11_see_39 : decode cX11_see 39 = .ok (.aload_n 0, 1) := by decide +kernel
theorem dX11_see_40 : decode cX11_see 40 = .ok (.getfield 77, 3) := by decide +kernel
theorem dX11_see_43 : decode cX11_see 43 = .ok (.aload_n 0, 1) := by decide +kernel
theorem dX11_see_44 : decode cX11_see 44 = .ok (.getfield 182, 3) := by decide +kernel
theorem dX11_see_47 : decode cX11_see 47 = .ok (.iload_n 1, 1) := by decide +kernel
theorem dX11_see_48 : decode cX11_see 48 = .ok (.iastore, 1) := by decide +kernel
theorem dX11_see_49 : decode cX11_see 49 = .ok (.aload_n 0, 1) := by decide +kernel
theorem dX11_see_50 : decode cX11_see 50 = .ok (.getfield 80, 3) := by decide +kernel
theorem dX11_see_53 : decode cX11_see 53 = .ok (.aload_n 0, 1) := by decide +kernel
theorem dX11_see_54 : decode cX11_see 54 = .ok (.getfield 182, 3) := by decide +kernel
theorem dX11_see_57 : decode cX11_see 57 = .ok (.iload_n 2, 1) := by decide +kernel
theorem dX11_see_58 : decode cX11_see 58 = .ok (.iastore, 1) := by decide +kernel
theorem dX11_see_59 : decode cX11_see 59 = .ok (.aload_n 0, 1) := by decide +kernel
theorem dX11_see_60 : decode cX11_see 60 = .ok (.dup, 1) := by decide +kernel
theorem dX11_see_61 : decode cX11_see 61 = .ok (.getfield 182, 3) := by decide +kernel
theorem dX11_see_64 : decode cX11_see 64 = .ok (.iconst 1, 1) := by decide +kernel
theorem dX11_see_65 : decode cX11_see 65 = .ok (.iadd, 1) := by decide +kernel
theorem dX11_see_66 : decode cX11_see 66 = .ok (.putfield 182, 3) := by decide +kernel
theorem dX11_see_69 : decode cX11_see 69 = .ok (.aload_n 0, 1) := by decide +kernel
theorem dX11_see_70 : decode cX11_see 70 = .ok (.getfield 182, 3) := by decide +kernel
theorem dX11_see_73 : decode cX11_see 73 = .ok (.ireturn, 1) := by decide +kernel
theorem dX11_couldBe_0 : decode cX11_couldBe 0 = .ok (.iconst 1, 1) := by decide +kernel
theorem dX11_couldBe_1 : decode cX11_couldBe 1 = .ok (.istore_n 2, 1) := by decide +kernel
theorem dX11_couldBe_2 : decode cX11_couldBe 2 = .ok (.iconst 0, 1) := by decide +kernel
theorem dX11_couldBe_3 : decode cX11_couldBe 3 = .ok (.istore_n 3, 1) := by decide +kernel
theorem dX11_couldBe_4 : decode cX11_couldBe 4 = .ok (.iload_n 3, 1) := by decide +kernel
theorem dX11_couldBe_5 : decode cX11_couldBe 5 = .ok (.aload_n 0, 1) := by decide +kernel
theorem dX11_couldBe_6 : decode cX11_couldBe 6 = .ok (.getfield 182, 3) := by decide +kernel
theorem dX11_couldBe_9 : decode cX11_couldBe 9 = .ok (.if_icmp .ge 38, 3) := by decide +kernel
theorem dX11_couldBe_12 : decode cX11_couldBe 12 = .ok (.iload_n 2, 1) := by decide +kernel
theorem dX11_couldBe_13 : decode cX11_couldBe 13 = .ok (.ifCond .eq 34, 3) := by decide +kernel
theorem dX11_couldBe_16 : decode cX11_couldBe 16 = .ok (.iload_n 1, 1) := by decide +kernel
theorem dX11_couldBe_17 : decode cX11_couldBe 17 = .ok (.aload_n 0, 1) := by decide +kernel
theorem dX11_couldBe_18 : decode cX11_couldBe 18 = .ok (.getfield 77, 3) := by decide +kernel
theorem dX11_couldBe_21 : decode cX11_couldBe 21 = .ok (.iload_n 3, 1) := by decide +kernel
theorem dX11_couldBe_22 : decode cX11_couldBe 22 = .ok (.iaload, 1) := by decide +kernel
theorem dX11_couldBe_23 : decode cX11_couldBe 23 = .ok (.invokestatic 193, 3) := by decide +kernel
theorem dX11_couldBe_26 : decode cX11_couldBe 26 = .ok (.aload_n 0, 1) := by decide +kernel
theorem dX11_couldBe_27 : decode cX11_couldBe 27 = .ok (.getfield 80, 3) := by decide +kernel
theorem dX11_couldBe_30 : decode cX11_couldBe 30 = .ok (.iload_n 3, 1) := by decide +kernel
theorem dX11_couldBe_31 : decode cX11_couldBe 31 = .ok (.iaload, 1) := by decide +kernel
theorem dX11_couldBe_32 : decode cX11_couldBe 32 = .ok (.if_icmp .ne 7, 3) := by decide +kernel
theorem dX11_couldBe_35 : decode cX11_couldBe 35 = .ok (.iconst 1, 1) := by decide +kernel
theorem dX11_couldBe_36 : decode cX11_couldBe 36 = .ok (.goto 4, 3) := by decide +kernel
theorem dX11_couldBe_39 : decode cX11_couldBe 39 = .ok (.iconst 0, 1) := by decide +kernel
theorem dX11_couldBe_40 : decode cX11_couldBe 40 = .ok (.istore_n 2, 1) := by decide +kernel
theorem dX11_couldBe_41 : decode cX11_couldBe 41 = .ok (.iinc 3 1, 3) := by decide +kernel
theorem dX11_couldBe_44 : decode cX11_couldBe 44 = .ok (.goto (-40), 3) := by decide +kernel
theorem dX11_couldBe_47 : decode cX11_couldBe 47 = .ok (.iload_n 2, 1) := by decide +kernel
theorem dX11_couldBe_48 : decode cX11_couldBe 48 = .ok (.ireturn, 1) := by decide +kernel
theorem dX11_manySecrets_0 : decode cX11_manySecrets 0 = .ok (.iconst 0, 1) := by decide +kernel
theorem dX11_manySecrets_1 : decode cX11_manySecrets 1 = .ok (.istore_n 1, 1) := by decide +kernel
theorem dX11_manySecrets_2 : decode cX11_manySecrets 2 = .ok (.iconst 0, 1) := by decide +kernel
theorem dX11_manySecrets_3 : decode cX11_manySecrets 3 = .ok (.istore_n 2, 1) := by decide +kernel
theorem dX11_manySecrets_4 : decode cX11_manySecrets 4 = .ok (.iload_n 2, 1) := by decide +kernel
theorem dX11_manySecrets_5 : decode cX11_manySecrets 5 = .ok (.sipush 256, 3) := by decide +kernel
theorem dX11_manySecrets_8 : decode cX11_manySecrets 8 = .ok (.if_icmp .ge 25, 3) := by decide +kernel
theorem dX11_manySecrets_11 : decode cX11_manySecrets 11 = .ok (.iload_n 1, 1) := by decide +kernel
theorem dX11_manySecrets_12 : decode cX11_manySecrets 12 = .ok (.aload_n 0, 1) := by decide +kernel
theorem dX11_manySecrets_13 : decode cX11_manySecrets 13 = .ok (.iload_n 2, 1) := by decide +kernel
theorem dX11_manySecrets_14 : decode cX11_manySecrets 14 = .ok (.invokevirtual 321, 3) := by decide +kernel
theorem dX11_manySecrets_17 : decode cX11_manySecrets 17 = .ok (.ifCond .eq 7, 3) := by decide +kernel
theorem dX11_manySecrets_20 : decode cX11_manySecrets 20 = .ok (.iconst 1, 1) := by decide +kernel
theorem dX11_manySecrets_21 : decode cX11_manySecrets 21 = .ok (.goto 4, 3) := by decide +kernel
theorem dX11_manySecrets_24 : decode cX11_manySecrets 24 = .ok (.iconst 0, 1) := by decide +kernel
theorem dX11_manySecrets_25 : decode cX11_manySecrets 25 = .ok (.iadd, 1) := by decide +kernel
theorem dX11_manySecrets_26 : decode cX11_manySecrets 26 = .ok (.istore_n 1, 1) := by decide +kernel
theorem dX11_manySecrets_27 : decode cX11_manySecrets 27 = .ok (.iinc 2 1, 3) := by decide +kernel
theorem dX11_manySecrets_30 : decode cX11_manySecrets 30 = .ok (.goto (-26), 3) := by decide +kernel
theorem dX11_manySecrets_33 : decode cX11_manySecrets 33 = .ok (.iload_n 1, 1) := by decide +kernel
theorem dX11_manySecrets_34 : decode cX11_manySecrets 34 = .ok (.ireturn, 1) := by decide +kernel
theorem dX11_secrets_0 : decode cX11_secrets 0 = .ok (.iload_n 1, 1) := by decide +kernel
theorem dX11_secrets_1 : decode cX11_secrets 1 = .ok (.i2l, 1) := by decide +kernel
theorem dX11_secrets_2 : decode cX11_secrets 2 = .ok (.lconst 0, 1) := by decide +kernel
theorem dX11_secrets_3 : decode cX11_secrets 3 = .ok (.ldc2_w 324, 3) := by decide +kernel
theorem dX11_secrets_6 : decode cX11_secrets 6 = .ok (.invokestatic 105, 3) := by decide +kernel
theorem dX11_secrets_9 : decode cX11_secrets 9 = .ok (.ifCond .ne 6, 3) := by decide +kernel
theorem dX11_secrets_12 : decode cX11_secrets 12 = .ok (.ldc 111, 2) := by decide +kernel
theorem dX11_secrets_14 : decode cX11_secrets 14 = .ok (.ireturn, 1) := by decide +kernel
theorem dX11_secrets_15 : decode cX11_secrets 15 = .ok (.iconst (-1), 1) := by decide +kernel
theorem dX11_secrets_16 : decode cX11_secrets 16 = .ok (.istore_n 2, 1) := by decide +kernel
theorem dX11_secrets_17 : decode cX11_secrets 17 = .ok (.iconst (-1), 1) := by decide +kernel
theorem dX11_secrets_18 : decode cX11_secrets 18 = .ok (.istore_n 3, 1) := by decide +kernel
theorem dX11_secrets_19 : decode cX11_secrets 19 = .ok (.iconst 0, 1) := by decide +kernel
theorem dX11_secrets_20 : decode cX11_secrets 20 = .ok (.istore 4, 2) := by decide +kernel
theorem dX11_secrets_22 : decode cX11_secrets 22 = .ok (.iload 4, 2) := by decide +kernel
theorem dX11_secrets_24 : decode cX11_secrets 24 = .ok (.sipush 256, 3) := by decide +kernel
theorem dX11_secrets_27 : decode cX11_secrets 27 = .ok (.if_icmp .ge 45, 3) := by decide +kernel
theorem dX11_secrets_30 : decode cX11_secrets 30 = .ok (.iload_n 2, 1) := by decide +kernel
theorem dX11_secrets_31 : decode cX11_secrets 31 = .ok (.ifCond .ge 17, 3) := by decide +kernel
theorem dX11_secrets_34 : decode cX11_secrets 34 = .ok (.aload_n 0, 1) := by decide +kernel
theorem dX11_secrets_35 : decode cX11_secrets 35 = .ok (.iload 4, 2) := by decide +kernel
theorem dX11_secrets_37 : decode cX11_secrets 37 = .ok (.invokevirtual 321, 3) := by decide +kernel
theorem dX11_secrets_40 : decode cX11_secrets 40 = .ok (.ifCond .eq 8, 3) := by decide +kernel
theorem dX11_secrets_43 : decode cX11_secrets 43 = .ok (.iload 4, 2) := by decide +kernel
theorem dX11_secrets_45 : decode cX11_secrets 45 = .ok (.goto 4, 3) := by decide +kernel
theorem dX11_secrets_48 : decode cX11_secrets 48 = .ok (.iload_n 2, 1) := by decide +kernel
theorem dX11_secrets_49 : decode cX11_secrets 49 = .ok (.istore_n 2, 1) := by decide +kernel
theorem dX11_secrets_50 : decode cX11_secrets 50 = .ok (.aload_n 0, 1) := by decide +kernel
theorem dX11_secrets_51 : decode cX11_secrets 51 = .ok (.iload 4, 2) := by decide +kernel
theorem dX11_secrets_53 : decode cX11_secrets 53 = .ok (.invokevirtual 321, 3) := by decide +kernel
theorem dX11_secrets_56 : decode cX11_secrets 56 = .ok (.ifCond .eq 8, 3) := by decide +kernel
theorem dX11_secrets_59 : decode cX11_secrets 59 = .ok (.iload 4, 2) := by decide +kernel
theorem dX11_secrets_61 : decode cX11_secrets 61 = .ok (.goto 4, 3) := by decide +kernel
theorem dX11_secrets_64 : decode cX11_secrets 64 = .ok (.iload_n 3, 1) := by decide +kernel
theorem dX11_secrets_65 : decode cX11_secrets 65 = .ok (.istore_n 3, 1) := by decide +kernel
theorem dX11_secrets_66 : decode cX11_secrets 66 = .ok (.iinc 4 1, 3) := by decide +kernel
theorem dX11_secrets_69 : decode cX11_secrets 69 = .ok (.goto (-47), 3) := by decide +kernel
theorem dX11_secrets_72 : decode cX11_secrets 72 = .ok (.iload_n 1, 1) := by decide +kernel
theorem dX11_secrets_73 : decode cX11_secrets 73 = .ok (.ifCond .ne 10, 3) := by decide +kernel
theorem dX11_secrets_76 : decode cX11_secrets 76 = .ok (.aload_n 0, 1) := by decide +kernel
theorem dX11_secrets_77 : decode cX11_secrets 77 = .ok (.invokevirtual 326, 3) := by decide +kernel
theorem dX11_secrets_80 : decode cX11_secrets 80 = .ok (.goto 13, 3) := by decide +kernel
theorem dX11_secrets_83 : decode cX11_secrets 83 = .ok (.iload_n 1, 1) := by decide +kernel
theorem dX11_secrets_84 : decode cX11_secrets 84 = .ok (.iconst 1, 1) := by decide +kernel
theorem dX11_secrets_85 : decode cX11_secrets 85 = .ok (.if_icmp .ne 7, 3) := by decide +kernel
theorem dX11_secrets_88 : decode cX11_secrets 88 = .ok (.iload_n 2, 1) := by decide +kernel
theorem dX11_secrets_89 : decode cX11_secrets 89 = .ok (.goto 4, 3) := by decide +kernel
theorem dX11_secrets_92 : decode cX11_secrets 92 = .ok (.iload_n 3, 1) := by decide +kernel
theorem dX11_secrets_93 : decode cX11_secrets 93 = .ok (.ireturn, 1) := by decide +kernel
theorem dX11_greatestPart_0 : decode cX11_greatestPart 0 = .ok (.iconst 0, 1) := by decide +kernel
theorem dX11_greatestPart_1 : decode cX11_greatestPart 1 = .ok (.istore_n 2, 1) := by decide +kernel
theorem dX11_greatestPart_2 : decode cX11_greatestPart 2 = .ok (.iconst 0, 1) := by decide +kernel
theorem dX11_greatestPart_3 : decode cX11_greatestPart 3 = .ok (.istore_n 3, 1) := by decide +kernel
theorem dX11_greatestPart_4 : decode cX11_greatestPart 4 = .ok (.iload_n 3, 1) := by decide +kernel
theorem dX11_greatestPart_5 : decode cX11_greatestPart 5 = .ok (.sipush 509, 3) := by decide +kernel
theorem dX11_greatestPart_8 : decode cX11_greatestPart 8 = .ok (.if_icmp .ge 16, 3) := by decide +kernel
theorem dX11_greatestPart_11 : decode cX11_greatestPart 11 = .ok (.aload_n 0, 1) := by decide +kernel
theorem dX11_greatestPart_12 : decode cX11_greatestPart 12 = .ok (.getfield 83, 3) := by decide +kernel
theorem dX11_greatestPart_15 : decode cX11_greatestPart 15 = .ok (.iload_n 3, 1) := by decide +kernel
theorem dX11_greatestPart_16 : decode cX11_greatestPart 16 = .ok (.iconst 0, 1) := by decide +kernel
theorem dX11_greatestPart_17 : decode cX11_greatestPart 17 = .ok (.iastore, 1) := by decide +kernel
theorem dX11_greatestPart_18 : decode cX11_greatestPart 18 = .ok (.iinc 3 1, 3) := by decide +kernel
theorem dX11_greatestPart_21 : decode cX11_greatestPart 21 = .ok (.goto (-17), 3) := by decide +kernel
theorem dX11_greatestPart_24 : decode cX11_greatestPart 24 = .ok (.iconst 0, 1) := by decide +kernel
theorem dX11_greatestPart_25 : decode cX11_greatestPart 25 = .ok (.istore_n 3, 1) := by decide +kernel
theorem dX11_greatestPart_26 : decode cX11_greatestPart 26 = .ok (.iload_n 3, 1) := by decide +kernel
theorem dX11_greatestPart_27 : decode cX11_greatestPart 27 = .ok (.sipush 256, 3) := by decide +kernel
theorem dX11_greatestPart_30 : decode cX11_greatestPart 30 = .ok (.if_icmp .ge 58, 3) := by decide +kernel
theorem dX11_greatestPart_33 : decode cX11_greatestPart 33 = .ok (.aload_n 0, 1) := by decide +kernel
theorem dX11_greatestPart_34 : decode cX11_greatestPart 34 = .ok (.iload_n 3, 1) := by decide +kernel
theorem dX11_greatestPart_35 : decode cX11_greatestPart 35 = .ok (.invokevirtual 321, 3) := by decide +kernel
theorem dX11_greatestPart_38 : decode cX11_greatestPart 38 = .ok (.ifCond .eq 44, 3) := by decide +kernel
theorem dX11_greatestPart_41 : decode cX11_greatestPart 41 = .ok (.iload_n 3, 1) := by decide +kernel
theorem dX11_greatestPart_42 : decode cX11_greatestPart 42 = .ok (.iload_n 1, 1) := by decide +kernel
theorem dX11_greatestPart_43 : decode cX11_greatestPart 43 = .ok (.invokestatic 193, 3) := by decide +kernel
theorem dX11_greatestPart_46 : decode cX11_greatestPart 46 = .ok (.istore 4, 2) := by decide +kernel
theorem dX11_greatestPart_48 : decode cX11_greatestPart 48 = .ok (.aload_n 0, 1) := by decide +kernel
theorem dX11_greatestPart_49 : decode cX11_greatestPart 49 = .ok (.getfield 83, 3) := by decide +kernel
theorem dX11_greatestPart_52 : decode cX11_greatestPart 52 = .ok (.iload 4, 2) := by decide +kernel
theorem dX11_greatestPart_54 : decode cX11_greatestPart 54 = .ok (.dup2, 1) := by decide +kernel
theorem dX11_greatestPart_55 : decode cX11_greatestPart 55 = .ok (.iaload, 1) := by decide +kernel
theorem dX11_greatestPart_56 : decode cX11_greatestPart 56 = .ok (.iconst 1, 1) := by decide +kernel
theorem dX11_greatestPart_57 : decode cX11_greatestPart 57 = .ok (.iadd, 1) := by decide +kernel
theorem dX11_greatestPart_58 : decode cX11_greatestPart 58 = .ok (.iastore, 1) := by decide +kernel
theorem dX11_greatestPart_59 : decode cX11_greatestPart 59 = .ok (.aload_n 0, 1) := by decide +kernel
theorem dX11_greatestPart_60 : decode cX11_greatestPart 60 = .ok (.getfield 83, 3) := by decide +kernel
theorem dX11_greatestPart_63 : decode cX11_greatestPart 63 = .ok (.iload 4, 2) := by decide +kernel
theorem dX11_greatestPart_65 : decode cX11_greatestPart 65 = .ok (.iaload, 1) := by decide +kernel
theorem dX11_greatestPart_66 : decode cX11_greatestPart 66 = .ok (.iload_n 2, 1) := by decide +kernel
theorem dX11_greatestPart_67 : decode cX11_greatestPart 67 = .ok (.if_icmp .le 13, 3) := by decide +kernel
theorem dX11_greatestPart_70 : decode cX11_greatestPart 70 = .ok (.aload_n 0, 1) := by decide +kernel
theorem dX11_greatestPart_71 : decode cX11_greatestPart 71 = .ok (.getfield 83, 3) := by decide +kernel
theorem dX11_greatestPart_74 : decode cX11_greatestPart 74 = .ok (.iload 4, 2) := by decide +kernel
theorem dX11_greatestPart_76 : decode cX11_greatestPart 76 = .ok (.iaload, 1) := by decide +kernel
theorem dX11_greatestPart_77 : decode cX11_greatestPart 77 = .ok (.goto 4, 3) := by decide +kernel
theorem dX11_greatestPart_80 : decode cX11_greatestPart 80 = .ok (.iload_n 2, 1) := by decide +kernel
theorem dX11_greatestPart_81 : decode cX11_greatestPart 81 = .ok (.istore_n 2, 1) := by decide +kernel
theorem dX11_greatestPart_82 : decode cX11_greatestPart 82 = .ok (.iinc 3 1, 3) := by decide +kernel
theorem dX11_greatestPart_85 : decode cX11_greatestPart 85 = .ok (.goto (-59), 3) := by decide +kernel
theorem dX11_greatestPart_88 : decode cX11_greatestPart 88 = .ok (.iload_n 2, 1) := by decide +kernel
theorem dX11_greatestPart_89 : decode cX11_greatestPart 89 = .ok (.ireturn, 1) := by decide +kernel
theorem dX11_ask_0 : decode cX11_ask 0 = .ok (.iconst (-1), 1) := by decide +kernel
theorem dX11_ask_1 : decode cX11_ask 1 = .ok (.istore_n 1, 1) := by decide +kernel
theorem dX11_ask_2 : decode cX11_ask 2 = .ok (.aload_n 0, 1) := by decide +kernel
theorem dX11_ask_3 : decode cX11_ask 3 = .ok (.invokevirtual 326, 3) := by decide +kernel
theorem dX11_ask_6 : decode cX11_ask 6 = .ok (.istore_n 2, 1) := by decide +kernel
theorem dX11_ask_7 : decode cX11_ask 7 = .ok (.iconst 0, 1) := by decide +kernel
theorem dX11_ask_8 : decode cX11_ask 8 = .ok (.istore_n 3, 1) := by decide +kernel
theorem dX11_ask_9 : decode cX11_ask 9 = .ok (.iload_n 3, 1) := by decide +kernel
theorem dX11_ask_10 : decode cX11_ask 10 = .ok (.bipush 60, 2) := by decide +kernel
theorem dX11_ask_12 : decode cX11_ask 12 = .ok (.if_icmp .gt 41, 3) := by decide +kernel
theorem dX11_ask_15 : decode cX11_ask 15 = .ok (.aload_n 0, 1) := by decide +kernel
theorem dX11_ask_16 : decode cX11_ask 16 = .ok (.iload_n 3, 1) := by decide +kernel
theorem dX11_ask_17 : decode cX11_ask 17 = .ok (.invokevirtual 329, 3) := by decide +kernel
theorem dX11_ask_20 : decode cX11_ask 20 = .ok (.istore 4, 2) := by decide +kernel
theorem dX11_ask_22 : decode cX11_ask 22 = .ok (.iload 4, 2) := by decide +kernel
theorem dX11_ask_24 : decode cX11_ask 24 = .ok (.iload_n 2, 1) := by decide +kernel
theorem dX11_ask_25 : decode cX11_ask 25 = .ok (.if_icmp .ge 7, 3) := by decide +kernel
theorem dX11_ask_28 : decode cX11_ask 28 = .ok (.iload_n 3, 1) := by decide +kernel
theorem dX11_ask_29 : decode cX11_ask 29 = .ok (.goto 4, 3) := by decide +kernel
theorem dX11_ask_32 : decode cX11_ask 32 = .ok (.iload_n 1, 1) := by decide +kernel
theorem dX11_ask_33 : decode cX11_ask 33 = .ok (.istore_n 1, 1) := by decide +kernel
theorem dX11_ask_34 : decode cX11_ask 34 = .ok (.iload 4, 2) := by decide +kernel
theorem dX11_ask_36 : decode cX11_ask 36 = .ok (.iload_n 2, 1) := by decide +kernel
theorem dX11_ask_37 : decode cX11_ask 37 = .ok (.if_icmp .ge 8, 3) := by decide +kernel
theorem dX11_ask_40 : decode cX11_ask 40 = .ok (.iload 4, 2) := by decide +kernel
theorem dX11_ask_42 : decode cX11_ask 42 = .ok (.goto 4, 3) := by decide +kernel
theorem dX11_ask_45 : decode cX11_ask 45 = .ok (.iload_n 2, 1) := by decide +kernel
theorem dX11_ask_46 : decode cX11_ask 46 = .ok (.istore_n 2, 1) := by decide +kernel
theorem dX11_ask_47 : decode cX11_ask 47 = .ok (.iinc 3 1, 3) := by decide +kernel
theorem dX11_ask_50 : decode cX11_ask 50 = .ok (.goto (-41), 3) := by decide +kernel
theorem dX11_ask_53 : decode cX11_ask 53 = .ok (.iload_n 1, 1) := by decide +kernel
theorem dX11_ask_54 : decode cX11_ask 54 = .ok (.ireturn, 1) := by decide +kernel
theorem dX11_write_0 : decode cX11_write 0 = .ok (.aload_n 0, 1) := by decide +kernel
theorem dX11_write_1 : decode cX11_write 1 = .ok (.iload_n 1, 1) := by decide +kernel
theorem dX11_write_2 : decode cX11_write 2 = .ok (.invokevirtual 242, 3) := by decide +kernel
theorem dX11_write_5 : decode cX11_write 5 = .ok (.ifCond .ne 6, 3) := by decide +kernel
theorem dX11_write_8 : decode cX11_write 8 = .ok (.ldc 237, 2) := by decide +kernel
theorem dX11_write_10 : decode cX11_write 10 = .ok (.ireturn, 1) := by decide +kernel
theorem dX11_write_11 : decode cX11_write 11 = .ok (.iload_n 2, 1) := by decide +kernel
theorem dX11_write_12 : decode cX11_write 12 = .ok (.i2l, 1) := by decide +kernel
theorem dX11_write_13 : decode cX11_write 13 = .ok (.lconst 0, 1) := by decide +kernel
theorem dX11_write_14 : decode cX11_write 14 = .ok (.ldc2_w 191, 3) := by decide +kernel
theorem dX11_write_17 : decode cX11_write 17 = .ok (.invokestatic 105, 3) := by decide +kernel
