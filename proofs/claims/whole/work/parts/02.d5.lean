theorem dX11_takeNumber_110 : decode cX11_takeNumber 110 = .ok (.isub, 1) := by decide +kernel
theorem dX11_takeNumber_111 : decode cX11_takeNumber 111 = .ok (.putfield 131, 3) := by decide +kernel
theorem dX11_takeNumber_114 : decode cX11_takeNumber 114 = .ok (.aload_n 0, 1) := by decide +kernel
theorem dX11_takeNumber_115 : decode cX11_takeNumber 115 = .ok (.dup, 1) := by decide +kernel
theorem dX11_takeNumber_116 : decode cX11_takeNumber 116 = .ok (.getfield 116, 3) := by decide +kernel
theorem dX11_takeNumber_119 : decode cX11_takeNumber 119 = .ok (.iconst 1, 1) := by decide +kernel
theorem dX11_takeNumber_120 : decode cX11_takeNumber 120 = .ok (.iadd, 1) := by decide +kernel
theorem dX11_takeNumber_121 : decode cX11_takeNumber 121 = .ok (.putfield 116, 3) := by decide +kernel
theorem dX11_takeNumber_124 : decode cX11_takeNumber 124 = .ok (.goto (-84), 3) := by decide +kernel
theorem dX11_takeNumber_127 : decode cX11_takeNumber 127 = .ok (.aload_n 0, 1) := by decide +kernel
theorem dX11_takeNumber_128 : decode cX11_takeNumber 128 = .ok (.getfield 116, 3) := by decide +kernel
theorem dX11_takeNumber_131 : decode cX11_takeNumber 131 = .ok (.iload 4, 2) := by decide +kernel
theorem dX11_takeNumber_133 : decode cX11_takeNumber 133 = .ok (.isub, 1) := by decide +kernel
theorem dX11_takeNumber_134 : decode cX11_takeNumber 134 = .ok (.iconst 3, 1) := by decide +kernel
theorem dX11_takeNumber_135 : decode cX11_takeNumber 135 = .ok (.if_icmp .gt 18, 3) := by decide +kernel
theorem dX11_takeNumber_138 : decode cX11_takeNumber 138 = .ok (.aload_n 0, 1) := by decide +kernel
theorem dX11_takeNumber_139 : decode cX11_takeNumber 139 = .ok (.getfield 131, 3) := by decide +kernel
theorem dX11_takeNumber_142 : decode cX11_takeNumber 142 = .ok (.i2l, 1) := by decide +kernel
theorem dX11_takeNumber_143 : decode cX11_takeNumber 143 = .ok (.iload_n 1, 1) := by decide +kernel
theorem dX11_takeNumber_144 : decode cX11_takeNumber 144 = .ok (.i2l, 1) := by decide +kernel
theorem dX11_takeNumber_145 : decode cX11_takeNumber 145 = .ok (.iload_n 2, 1) := by decide +kernel
theorem dX11_takeNumber_146 : decode cX11_takeNumber 146 = .ok (.i2l, 1) := by decide +kernel
theorem dX11_takeNumber_147 : decode cX11_takeNumber 147 = .ok (.invokestatic 105, 3) := by decide +kernel
theorem dX11_takeNumber_150 : decode cX11_takeNumber 150 = .ok (.ifCond .ne 13, 3) := by decide +kernel
theorem dX11_takeNumber_153 : decode cX11_takeNumber 153 = .ok (.aload_n 0, 1) := by decide +kernel
theorem dX11_takeNumber_154 : decode cX11_takeNumber 154 = .ok (.iconst 2, 1) := by decide +kernel
theorem dX11_takeNumber_155 : decode cX11_takeNumber 155 = .ok (.iload 4, 2) := by decide +kernel
theorem dX11_takeNumber_157 : decode cX11_takeNumber 157 = .ok (.invokevirtual 127, 3) := by decide +kernel
theorem dX11_takeNumber_160 : decode cX11_takeNumber 160 = .ok (.goto 4, 3) := by decide +kernel
theorem dX11_takeNumber_163 : decode cX11_takeNumber 163 = .ok (.iconst 0, 1) := by decide +kernel
theorem dX11_takeNumber_164 : decode cX11_takeNumber 164 = .ok (.ireturn, 1) := by decide +kernel
theorem dX11_into_0 : decode cX11_into 0 = .ok (.aload_n 0, 1) := by decide +kernel
theorem dX11_into_1 : decode cX11_into 1 = .ok (.iload_n 3, 1) := by decide +kernel
theorem dX11_into_2 : decode cX11_into 2 = .ok (.iload 4, 2) := by decide +kernel
theorem dX11_into_4 : decode cX11_into 4 = .ok (.invokevirtual 134, 3) := by decide +kernel
theorem dX11_into_7 : decode cX11_into 7 = .ok (.istore 5, 2) := by decide +kernel
theorem dX11_into_9 : decode cX11_into 9 = .ok (.aload_n 1, 1) := by decide +kernel
theorem dX11_into_10 : decode cX11_into 10 = .ok (.iload_n 2, 1) := by decide +kernel
theorem dX11_into_11 : decode cX11_into 11 = .ok (.aload_n 0, 1) := by decide +kernel
theorem dX11_into_12 : decode cX11_into 12 = .ok (.getfield 131, 3) := by decide +kernel
theorem dX11_into_15 : decode cX11_into 15 = .ok (.iastore, 1) := by decide +kernel
theorem dX11_into_16 : decode cX11_into 16 = .ok (.iload 5, 2) := by decide +kernel
theorem dX11_into_18 : decode cX11_into 18 = .ok (.ireturn, 1) := by decide +kernel
theorem dX11_takeEar_0 : decode cX11_takeEar 0 = .ok (.aload_n 0, 1) := by decide +kernel
theorem dX11_takeEar_1 : decode cX11_takeEar 1 = .ok (.iconst 1, 1) := by decide +kernel
theorem dX11_takeEar_2 : decode cX11_takeEar 2 = .ok (.putfield 137, 3) := by decide +kernel
theorem dX11_takeEar_5 : decode cX11_takeEar 5 = .ok (.aload_n 0, 1) := by decide +kernel
theorem dX11_takeEar_6 : decode cX11_takeEar 6 = .ok (.aload_n 0, 1) := by decide +kernel
theorem dX11_takeEar_7 : decode cX11_takeEar 7 = .ok (.getfield 44, 3) := by decide +kernel
theorem dX11_takeEar_10 : decode cX11_takeEar 10 = .ok (.iconst 0, 1) := by decide +kernel
theorem dX11_takeEar_11 : decode cX11_takeEar 11 = .ok (.iconst 0, 1) := by decide +kernel
theorem dX11_takeEar_12 : decode cX11_takeEar 12 = .ok (.bipush 9, 2) := by decide +kernel
theorem dX11_takeEar_14 : decode cX11_takeEar 14 = .ok (.invokevirtual 141, 3) := by decide +kernel
theorem dX11_takeEar_17 : decode cX11_takeEar 17 = .ok (.istore_n 1, 1) := by decide +kernel
theorem dX11_takeEar_18 : decode cX11_takeEar 18 = .ok (.iload_n 1, 1) := by decide +kernel
theorem dX11_takeEar_19 : decode cX11_takeEar 19 = .ok (.ifCond .le 7, 3) := by decide +kernel
theorem dX11_takeEar_22 : decode cX11_takeEar 22 = .ok (.iload_n 1, 1) := by decide +kernel
theorem dX11_takeEar_23 : decode cX11_takeEar 23 = .ok (.goto 15, 3) := by decide +kernel
theorem dX11_takeEar_26 : decode cX11_takeEar 26 = .ok (.aload_n 0, 1) := by decide +kernel
theorem dX11_takeEar_27 : decode cX11_takeEar 27 = .ok (.aload_n 0, 1) := by decide +kernel
theorem dX11_takeEar_28 : decode cX11_takeEar 28 = .ok (.getfield 44, 3) := by decide +kernel
theorem dX11_takeEar_31 : decode cX11_takeEar 31 = .ok (.iconst 1, 1) := by decide +kernel
theorem dX11_takeEar_32 : decode cX11_takeEar 32 = .ok (.iconst 0, 1) := by decide +kernel
theorem dX11_takeEar_33 : decode cX11_takeEar 33 = .ok (.bipush 9, 2) := by decide +kernel
theorem dX11_takeEar_35 : decode cX11_takeEar 35 = .ok (.invokevirtual 141, 3) := by decide +kernel
theorem dX11_takeEar_38 : decode cX11_takeEar 38 = .ok (.ireturn, 1) := by decide +kernel
theorem dX11_takeGate_0 : decode cX11_takeGate 0 = .ok (.aload_n 0, 1) := by decide +kernel
theorem dX11_takeGate_1 : decode cX11_takeGate 1 = .ok (.getfield 145, 3) := by decide +kernel
theorem dX11_takeGate_4 : decode cX11_takeGate 4 = .ok (.istore_n 1, 1) := by decide +kernel
theorem dX11_takeGate_5 : decode cX11_takeGate 5 = .ok (.aload_n 0, 1) := by decide +kernel
theorem dX11_takeGate_6 : decode cX11_takeGate 6 = .ok (.dup, 1) := by decide +kernel
theorem dX11_takeGate_7 : decode cX11_takeGate 7 = .ok (.getfield 145, 3) := by decide +kernel
theorem dX11_takeGate_10 : decode cX11_takeGate 10 = .ok (.iconst 1, 1) := by decide +kernel
theorem dX11_takeGate_11 : decode cX11_takeGate 11 = .ok (.iadd, 1) := by decide +kernel
theorem dX11_takeGate_12 : decode cX11_takeGate 12 = .ok (.putfield 145, 3) := by decide +kernel
theorem dX11_takeGate_15 : decode cX11_takeGate 15 = .ok (.aload_n 0, 1) := by decide +kernel
theorem dX11_takeGate_16 : decode cX11_takeGate 16 = .ok (.aload_n 0, 1) := by decide +kernel
theorem dX11_takeGate_17 : decode cX11_takeGate 17 = .ok (.getfield 47, 3) := by decide +kernel
theorem dX11_takeGate_20 : decode cX11_takeGate 20 = .ok (.iload_n 1, 1) := by decide +kernel
theorem dX11_takeGate_21 : decode cX11_takeGate 21 = .ok (.iconst 0, 1) := by decide +kernel
theorem dX11_takeGate_22 : decode cX11_takeGate 22 = .ok (.iconst 3, 1) := by decide +kernel
theorem dX11_takeGate_23 : decode cX11_takeGate 23 = .ok (.invokevirtual 141, 3) := by decide +kernel
theorem dX11_takeGate_26 : decode cX11_takeGate 26 = .ok (.istore_n 2, 1) := by decide +kernel
theorem dX11_takeGate_27 : decode cX11_takeGate 27 = .ok (.iload_n 2, 1) := by decide +kernel
theorem dX11_takeGate_28 : decode cX11_takeGate 28 = .ok (.ifCond .le 7, 3) := by decide +kernel
theorem dX11_takeGate_31 : decode cX11_takeGate 31 = .ok (.iload_n 2, 1) := by decide +kernel
theorem dX11_takeGate_32 : decode cX11_takeGate 32 = .ok (.goto 15, 3) := by decide +kernel
theorem dX11_takeGate_35 : decode cX11_takeGate 35 = .ok (.aload_n 0, 1) := by decide +kernel
theorem dX11_takeGate_36 : decode cX11_takeGate 36 = .ok (.aload_n 0, 1) := by decide +kernel
theorem dX11_takeGate_37 : decode cX11_takeGate 37 = .ok (.getfield 50, 3) := by decide +kernel
theorem dX11_takeGate_40 : decode cX11_takeGate 40 = .ok (.iload_n 1, 1) := by decide +kernel
theorem dX11_takeGate_41 : decode cX11_takeGate 41 = .ok (.iconst 0, 1) := by decide +kernel
theorem dX11_takeGate_42 : decode cX11_takeGate 42 = .ok (.bipush 9, 2) := by decide +kernel
theorem dX11_takeGate_44 : decode cX11_takeGate 44 = .ok (.invokevirtual 141, 3) := by decide +kernel
theorem dX11_takeGate_47 : decode cX11_takeGate 47 = .ok (.istore_n 2, 1) := by decide +kernel
theorem dX11_takeGate_48 : decode cX11_takeGate 48 = .ok (.iload_n 2, 1) := by decide +kernel
theorem dX11_takeGate_49 : decode cX11_takeGate 49 = .ok (.ifCond .le 7, 3) := by decide +kernel
theorem dX11_takeGate_52 : decode cX11_takeGate 52 = .ok (.iload_n 2, 1) := by decide +kernel
theorem dX11_takeGate_53 : decode cX11_takeGate 53 = .ok (.goto 15, 3) := by decide +kernel
theorem dX11_takeGate_56 : decode cX11_takeGate 56 = .ok (.aload_n 0, 1) := by decide +kernel
theorem dX11_takeGate_57 : decode cX11_takeGate 57 = .ok (.aload_n 0, 1) := by decide +kernel
theorem dX11_takeGate_58 : decode cX11_takeGate 58 = .ok (.getfield 53, 3) := by decide +kernel
theorem dX11_takeGate_61 : decode cX11_takeGate 61 = .ok (.iload_n 1, 1) := by decide +kernel
theorem dX11_takeGate_62 : decode cX11_takeGate 62 = .ok (.iconst 1, 1) := by decide +kernel
theorem dX11_takeGate_63 : decode cX11_takeGate 63 = .ok (.bipush 32, 2) := by decide +kernel
theorem dX11_takeGate_65 : decode cX11_takeGate 65 = .ok (.invokevirtual 141, 3) := by decide +kernel
theorem dX11_takeGate_68 : decode cX11_takeGate 68 = .ok (.ireturn, 1) := by decide +kernel
theorem dX11_takeFob_0 : decode cX11_takeFob 0 = .ok (.aload_n 0, 1) := by decide +kernel
theorem dX11_takeFob_1 : decode cX11_takeFob 1 = .ok (.getfield 148, 3) := by decide +kernel
theorem dX11_takeFob_4 : decode cX11_takeFob 4 = .ok (.istore_n 1, 1) := by decide +kernel
theorem dX11_takeFob_5 : decode cX11_takeFob 5 = .ok (.aload_n 0, 1) := by decide +kernel
theorem dX11_takeFob_6 : decode cX11_takeFob 6 = .ok (.dup, 1) := by decide +kernel
theorem dX11_takeFob_7 : decode cX11_takeFob 7 = .ok (.getfield 148, 3) := by decide +kernel
theorem dX11_takeFob_10 : decode cX11_takeFob 10 = .ok (.iconst 1, 1) := by decide +kernel
theorem dX11_takeFob_11 : decode cX11_takeFob 11 = .ok (.iadd, 1) := by decide +kernel
theorem dX11_takeFob_12 : decode cX11_takeFob 12 = .ok (.putfield 148, 3) := by decide +kernel
theorem dX11_takeFob_15 : decode cX11_takeFob 15 = .ok (.aload_n 0, 1) := by decide +kernel
theorem dX11_takeFob_16 : decode cX11_takeFob 16 = .ok (.aload_n 0, 1) := by decide +kernel
theorem dX11_takeFob_17 : decode cX11_takeFob 17 = .ok (.getfield 56, 3) := by decide +kernel
theorem dX11_takeFob_20 : decode cX11_takeFob 20 = .ok (.iload_n 1, 1) := by decide +kernel
theorem dX11_takeFob_21 : decode cX11_takeFob 21 = .ok (.iconst 0, 1) := by decide +kernel
theorem dX11_takeFob_22 : decode cX11_takeFob 22 = .ok (.iconst 3, 1) := by decide +kernel
theorem dX11_takeFob_23 : decode cX11_takeFob 23 = .ok (.invokevirtual 141, 3) := by decide +kernel
theorem dX11_takeFob_26 : decode cX11_takeFob 26 = .ok (.istore_n 2, 1) := by decide +kernel
theorem dX11_takeFob_27 : decode cX11_takeFob 27 = .ok (.iload_n 2, 1) := by decide +kernel
theorem dX11_takeFob_28 : decode cX11_takeFob 28 = .ok (.ifCond .le 7, 3) := by decide +kernel
theorem dX11_takeFob_31 : decode cX11_takeFob 31 = .ok (.iload_n 2, 1) := by decide +kernel
theorem dX11_takeFob_32 : decode cX11_takeFob 32 = .ok (.goto 15, 3) := by decide +kernel
theorem dX11_takeFob_35 : decode cX11_takeFob 35 = .ok (.aload_n 0, 1) := by decide +kernel
theorem dX11_takeFob_36 : decode cX11_takeFob 36 = .ok (.aload_n 0, 1) := by decide +kernel
theorem dX11_takeFob_37 : decode cX11_takeFob 37 = .ok (.getfield 59, 3) := by decide +kernel
theorem dX11_takeFob_40 : decode cX11_takeFob 40 = .ok (.iload_n 1, 1) := by decide +kernel
theorem dX11_takeFob_41 : decode cX11_takeFob 41 = .ok (.iconst 0, 1) := by decide +kernel
theorem dX11_takeFob_42 : decode cX11_takeFob 42 = .ok (.bipush 9, 2) := by decide +kernel
theorem dX11_takeFob_44 : decode cX11_takeFob 44 = .ok (.invokevirtual 141, 3) := by decide +kernel
theorem dX11_takeFob_47 : decode cX11_takeFob 47 = .ok (.istore_n 2, 1) := by decide +kernel
theorem dX11_takeFob_48 : decode cX11_takeFob 48 = .ok (.iload_n 2, 1) := by decide +kernel
theorem dX11_takeFob_49 : decode cX11_takeFob 49 = .ok (.ifCond .le 7, 3) := by decide +kernel
theorem dX11_takeFob_52 : decode cX11_takeFob 52 = .ok (.iload_n 2, 1) := by decide +kernel
theorem dX11_takeFob_53 : decode cX11_takeFob 53 = .ok (.goto 15, 3) := by decide +kernel
theorem dX11_takeFob_56 : decode cX11_takeFob 56 = .ok (.aload_n 0, 1) := by decide +kernel
theorem dX11_takeFob_57 : decode cX11_takeFob 57 = .ok (.aload_n 0, 1) := by decide +kernel
theorem dX11_takeFob_58 : decode cX11_takeFob 58 = .ok (.getfield 62, 3) := by decide +kernel
theorem dX11_takeFob_61 : decode cX11_takeFob 61 = .ok (.iload_n 1, 1) := by decide +kernel
theorem dX11_takeFob_62 : decode cX11_takeFob 62 = .ok (.iconst 0, 1) := by decide +kernel
theorem dX11_takeFob_63 : decode cX11_takeFob 63 = .ok (.bipush 9, 2) := by decide +kernel
theorem dX11_takeFob_65 : decode cX11_takeFob 65 = .ok (.invokevirtual 141, 3) := by decide +kernel
theorem dX11_takeFob_68 : decode cX11_takeFob 68 = .ok (.istore_n 2, 1) := by decide +kernel
theorem dX11_takeFob_69 : decode cX11_takeFob 69 = .ok (.iload_n 2, 1) := by decide +kernel
theorem dX11_takeFob_70 : decode cX11_takeFob 70 = .ok (.ifCond .le 7, 3) := by decide +kernel
theorem dX11_takeFob_73 : decode cX11_takeFob 73 = .ok (.iload_n 2, 1) := by decide +kernel
theorem dX11_takeFob_74 : decode cX11_takeFob 74 = .ok (.goto 16, 3) := by decide +kernel
theorem dX11_takeFob_77 : decode cX11_takeFob 77 = .ok (.aload_n 0, 1) := by decide +kernel
theorem dX11_takeFob_78 : decode cX11_takeFob 78 = .ok (.aload_n 0, 1) := by decide +kernel
theorem dX11_takeFob_79 : decode cX11_takeFob 79 = .ok (.getfield 65, 3) := by decide +kernel
theorem dX11_takeFob_82 : decode cX11_takeFob 82 = .ok (.iload_n 1, 1) := by decide +kernel
theorem dX11_takeFob_83 : decode cX11_takeFob 83 = .ok (.iconst 0, 1) := by decide +kernel
theorem dX11_takeFob_84 : decode cX11_takeFob 84 = .ok (.sipush 255, 3) := by decide +kernel
theorem dX11_takeFob_87 : decode cX11_takeFob 87 = .ok (.invokevirtual 141, 3) := by decide +kernel
theorem dX11_takeFob_90 : decode cX11_takeFob 90 = .ok (.istore_n 2, 1) := by decide +kernel
theorem dX11_takeFob_91 : decode cX11_takeFob 91 = .ok (.iload_n 2, 1) := by decide +kernel
theorem dX11_takeFob_92 : decode cX11_takeFob 92 = .ok (.ifCond .le 7, 3) := by decide +kernel
theorem dX11_takeFob_95 : decode cX11_takeFob 95 = .ok (.iload_n 2, 1) := by decide +kernel
theorem dX11_takeFob_96 : decode cX11_takeFob 96 = .ok (.goto 16, 3) := by decide +kernel
theorem dX11_takeFob_99 : decode cX11_takeFob 99 = .ok (.aload_n 0, 1) := by decide +kernel
theorem dX11_takeFob_100 : decode cX11_takeFob 100 = .ok (.aload_n 0, 1) := by decide +kernel
theorem dX11_takeFob_101 : decode cX11_takeFob 101 = .ok (.getfield 68, 3) := by decide +kernel
theorem dX11_takeFob_104 : decode cX11_takeFob 104 = .ok (.iload_n 1, 1) := by decide +kernel
theorem dX11_takeFob_105 : decode cX11_takeFob 105 = .ok (.iconst 0, 1) := by decide +kernel
theorem dX11_takeFob_106 : decode cX11_takeFob 106 = .ok (.sipush 999, 3) := by decide +kernel
theorem dX11_takeFob_109 : decode cX11_takeFob 109 = .ok (.invokevirtual 141, 3) := by decide +kernel
theorem dX11_takeFob_112 : decode cX11_takeFob 112 = .ok (.ireturn, 1) := by decide +kernel
theorem dX11_takeClause_0 : decode cX11_takeClause 0 = .ok (.aload_n 0, 1) := by decide +kernel
theorem dX11_takeClause_1 : decode cX11_takeClause 1 = .ok (.invokevirtual 119, 3) := by decide +kernel
theorem dX11_takeClause_4 : decode cX11_takeClause 4 = .ok (.istore_n 1, 1) := by decide +kernel
theorem dX11_takeClause_5 : decode cX11_takeClause 5 = .ok (.iload_n 1, 1) := by decide +kernel
theorem dX11_takeClause_6 : decode cX11_takeClause 6 = .ok (.bipush 101, 2) := by decide +kernel
theorem dX11_takeClause_8 : decode cX11_takeClause 8 = .ok (.if_icmp .ne 7, 3) := by decide +kernel
theorem dX11_takeClause_11 : decode cX11_takeClause 11 = .ok (.iconst 0, 1) := by decide +kernel
theorem dX11_takeClause_12 : decode cX11_takeClause 12 = .ok (.goto 24, 3) := by decide +kernel
theorem dX11_takeClause_15 : decode cX11_takeClause 15 = .ok (.iload_n 1, 1) := by decide +kernel
theorem dX11_takeClause_16 : decode cX11_takeClause 16 = .ok (.bipush 103, 2) := by decide +kernel
theorem dX11_takeClause_18 : decode cX11_takeClause 18 = .ok (.if_icmp .ne 7, 3) := by decide +kernel
theorem dX11_takeClause_21 : decode cX11_takeClause 21 = .ok (.iconst 1, 1) := by decide +kernel
theorem dX11_takeClause_22 : decode cX11_takeClause 22 = .ok (.goto 14, 3) := by decide +kernel
theorem dX11_takeClause_25 : decode cX11_takeClause 25 = .ok (.iload_n 1, 1) := by decide +kernel
theorem dX11_takeClause_26 : decode cX11_takeClause 26 = .ok (.bipush 102, 2) := by decide +kernel
theorem dX11_takeClause_28 : decode cX11_takeClause 28 = .ok (.if_icmp .ne 7, 3) := by decide +kernel
theorem dX11_takeClause_31 : decode cX11_takeClause 31 = .ok (.iconst 2, 1) := by decide +kernel
theorem dX11_takeClause_32 : decode cX11_takeClause 32 = .ok (.goto 4, 3) := by decide +kernel
theorem dX11_takeClause_35 : decode cX11_takeClause 35 = .ok (.iconst (-1), 1) := by decide +kernel
theorem dX11_takeClause_36 : decode cX11_takeClause 36 = .ok (.istore_n 2, 1) := by decide +kernel
theorem dX11_takeClause_37 : decode cX11_takeClause 37 = .ok (.iload_n 2, 1) := by decide +kernel
theorem dX11_takeClause_38 : decode cX11_takeClause 38 = .ok (.ifCond .lt 14, 3) := by decide +kernel
theorem dX11_takeClause_41 : decode cX11_takeClause 41 = .ok (.iload_n 2, 1) := by decide +kernel
theorem dX11_takeClause_42 : decode cX11_takeClause 42 = .ok (.ifCond .le 20, 3) := by decide +kernel
theorem dX11_takeClause_45 : decode cX11_takeClause 45 = .ok (.aload_n 0, 1) := by decide +kernel
theorem dX11_takeClause_46 : decode cX11_takeClause 46 = .ok (.getfield 137, 3) := by decide +kernel
theorem dX11_takeClause_49 : decode cX11_takeClause 49 = .ok (.ifCond .ne 13, 3) := by decide +kernel
theorem dX11_takeClause_52 : decode cX11_takeClause 52 = .ok (.aload_n 0, 1) := by decide +kernel
theorem dX11_takeClause_53 : decode cX11_takeClause 53 = .ok (.iconst 1, 1) := by decide +kernel
theorem dX11_takeClause_54 : decode cX11_takeClause 54 = .ok (.aload_n 0, 1) := by decide +kernel
theorem dX11_takeClause_55 : decode cX11_takeClause 55 = .ok (.getfield 116, 3) := by decide +kernel
theorem dX11_takeClause_58 : decode cX11_takeClause 58 = .ok (.invokevirtual 127, 3) := by decide +kernel
theorem dX11_takeClause_61 : decode cX11_takeClause 61 = .ok (.ireturn, 1) := by decide +kernel
theorem dX11_takeClause_62 : decode cX11_takeClause 62 = .ok (.iload_n 2, 1) := by decide +kernel
theorem dX11_takeClause_63 : decode cX11_takeClause 63 = .ok (.ifCond .ne 10, 3) := by decide +kernel
theorem dX11_takeClause_66 : decode cX11_takeClause 66 = .ok (.aload_n 0, 1) := by decide +kernel
theorem dX11_takeClause_67 : decode cX11_takeClause 67 = .ok (.getfield 137, 3) := by decide +kernel
theorem dX11_takeClause_70 : decode cX11_takeClause 70 = .ok (.goto 37, 3) := by decide +kernel
theorem dX11_takeClause_73 : decode cX11_takeClause 73 = .ok (.iload_n 2, 1) := by decide +kernel
theorem dX11_takeClause_74 : decode cX11_takeClause 74 = .ok (.iconst 1, 1) := by decide +kernel
theorem dX11_takeClause_75 : decode cX11_takeClause 75 = .ok (.if_icmp .ne 19, 3) := by decide +kernel
theorem dX11_takeClause_78 : decode cX11_takeClause 78 = .ok (.aload_n 0, 1) := by decide +kernel
theorem dX11_takeClause_79 : decode cX11_takeClause 79 = .ok (.getfield 145, 3) := by decide +kernel
theorem dX11_takeClause_82 : decode cX11_takeClause 82 = .ok (.iconst 4, 1) := by decide +kernel
theorem dX11_takeClause_83 : decode cX11_takeClause 83 = .ok (.if_icmp .ne 7, 3) := by decide +kernel
theorem dX11_takeClause_86 : decode cX11_takeClause 86 = .ok (.iconst 1, 1) := by decide +kernel
theorem dX11_takeClause_87 : decode cX11_takeClause 87 = .ok (.goto 20, 3) := by decide +kernel
theorem dX11_takeClause_90 : decode cX11_takeClause 90 = .ok (.iconst 0, 1) := by decide +kernel
theorem dX11_takeClause_91 : decode cX11_takeClause 91 = .ok (.goto 16, 3) := by decide +kernel
theorem dX11_takeClause_94 : decode cX11_takeClause 94 = .ok (.aload_n 0, 1) := by decide +kernel
theorem dX11_takeClause_95 : decode cX11_takeClause 95 = .ok (.getfield 148, 3) := by decide +kernel
theorem dX11_takeClause_98 : decode cX11_takeClause 98 = .ok (.iconst 5, 1) := by decide +kernel
theorem dX11_takeClause_99 : decode cX11_takeClause 99 = .ok (.if_icmp .ne 7, 3) := by decide +kernel
theorem dX11_takeClause_102 : decode cX11_takeClause 102 = .ok (.iconst 1, 1) := by decide +kernel
theorem dX11_takeClause_103 : decode cX11_takeClause 103 = .ok (.goto 4, 3) := by decide +kernel
theorem dX11_takeClause_106 : decode cX11_takeClause 106 = .ok (.iconst 0, 1) := by decide +kernel
theorem dX11_takeClause_107 : decode cX11_takeClause 107 = .ok (.istore_n 3, 1) := by decide +kernel
theorem dX11_takeClause_108 : decode cX11_takeClause 108 = .ok (.iload_n 3, 1) := by decide +kernel
theorem dX11_takeClause_109 : decode cX11_takeClause 109 = .ok (.ifCond .eq 13, 3) := by decide +kernel
theorem dX11_takeClause_112 : decode cX11_takeClause 112 = .ok (.aload_n 0, 1) := by decide +kernel
theorem dX11_takeClause_113 : decode cX11_takeClause 113 = .ok (.iconst 3, 1) := by decide +kernel
theorem dX11_takeClause_114 : decode cX11_takeClause 114 = .ok (.aload_n 0, 1) := by decide +kernel
theorem dX11_takeClause_115 : decode cX11_takeClause 115 = .ok (.getfield 116, 3) := by decide +kernel
theorem dX11_takeClause_118 : decode cX11_takeClause 118 = .ok (.invokevirtual 127, 3) := by decide +kernel
theorem dX11_takeClause_121 : decode cX11_takeClause 121 = .ok (.ireturn, 1) := by decide +kernel
theorem dX11_takeClause_122 : decode cX11_takeClause 122 = .ok (.aload_n 0, 1) := by decide +kernel
theorem dX11_takeClause_123 : decode cX11_takeClause 123 = .ok (.dup, 1) := by decide +kernel
theorem dX11_takeClause_124 : decode cX11_takeClause 124 = .ok (.getfield 116, 3) := by decide +kernel
theorem dX11_takeClause_127 : decode cX11_takeClause 127 = .ok (.iconst 1, 1) := by decide +kernel
theorem dX11_takeClause_128 : decode cX11_takeClause 128 = .ok (.iadd, 1) := by decide +kernel
theorem dX11_takeClause_129 : decode cX11_takeClause 129 = .ok (.putfield 116, 3) := by decide +kernel
theorem dX11_takeClause_132 : decode cX11_takeClause 132 = .ok (.iload_n 2, 1) := by decide +kernel
theorem dX11_takeClause_133 : decode cX11_takeClause 133 = .ok (.ifCond .ne 10, 3) := by decide +kernel
theorem dX11_takeClause_136 : decode cX11_takeClause 136 = .ok (.aload_n 0, 1) := by decide +kernel
theorem dX11_takeClause_137 : decode cX11_takeClause 137 = .ok (.invokevirtual 151, 3) := by decide +kernel
theorem dX11_takeClause_140 : decode cX11_takeClause 140 = .ok (.goto 19, 3) := by decide +kernel
theorem dX11_takeClause_143 : decode cX11_takeClause 143 = .ok (.iload_n 2, 1) := by decide +kernel
theorem dX11_takeClause_144 : decode cX11_takeClause 144 = .ok (.iconst 1, 1) := by decide +kernel
theorem dX11_takeClause_145 : decode cX11_takeClause 145 = .ok (.if_icmp .ne 10, 3) := by decide +kernel
theorem dX11_takeClause_148 : decode cX11_takeClause 148 = .ok (.aload_n 0, 1) := by decide +kernel
theorem dX11_takeClause_149 : decode cX11_takeClause 149 = .ok (.invokevirtual 154, 3) := by decide +kernel
theorem dX11_takeClause_152 : decode cX11_takeClause 152 = .ok (.goto 7, 3) := by decide +kernel
theorem dX11_takeClause_155 : decode cX11_takeClause 155 = .ok (.aload_n 0, 1) := by decide +kernel
theorem dX11_takeClause_156 : decode cX11_takeClause 156 = .ok (.invokevirtual 157, 3) := by decide +kernel
theorem dX11_takeClause_159 : decode cX11_takeClause 159 = .ok (.istore 4, 2) := by decide +kernel
theorem dX11_takeClause_161 : decode cX11_takeClause 161 = .ok (.iload 4, 2) := by decide +kernel
theorem dX11_takeClause_163 : decode cX11_takeClause 163 = .ok (.ifCond .ne 22, 3) := by decide +kernel
theorem dX11_takeClause_166 : decode cX11_takeClause 166 = .ok (.aload_n 0, 1) := by decide +kernel
theorem dX11_takeClause_167 : decode cX11_takeClause 167 = .ok (.invokevirtual 119, 3) := by decide +kernel
theorem dX11_takeClause_170 : decode cX11_takeClause 170 = .ok (.bipush 59, 2) := by decide +kernel
theorem dX11_takeClause_172 : decode cX11_takeClause 172 = .ok (.if_icmp .eq 13, 3) := by decide +kernel
theorem dX11_takeClause_175 : decode cX11_takeClause 175 = .ok (.aload_n 0, 1) := by decide +kernel
theorem dX11_takeClause_176 : decode cX11_takeClause 176 = .ok (.iconst 1, 1) := by decide +kernel
theorem dX11_takeClause_177 : decode cX11_takeClause 177 = .ok (.aload_n 0, 1) := by decide +kernel
theorem dX11_takeClause_178 : decode cX11_takeClause 178 = .ok (.getfield 116, 3) := by decide +kernel
theorem dX11_takeClause_181 : decode cX11_takeClause 181 = .ok (.invokevirtual 127, 3) := by decide +kernel
theorem dX11_takeClause_184 : decode cX11_takeClause 184 = .ok (.ireturn, 1) := by decide +kernel
theorem dX11_takeClause_185 : decode cX11_takeClause 185 = .ok (.aload_n 0, 1) := by decide +kernel
theorem dX11_takeClause_186 : decode cX11_takeClause 186 = .ok (.dup, 1) := by decide +kernel
theorem dX11_takeClause_187 : decode cX11_takeClause 187 = .ok (.getfield 116, 3) := by decide +kernel
theorem dX11_takeClause_190 : decode cX11_takeClause 190 = .ok (.iconst 1, 1) := by decide +kernel
theorem dX11_takeClause_191 : decode cX11_takeClause 191 = .ok (.iadd, 1) := by decide +kernel
theorem dX11_takeClause_192 : decode cX11_takeClause 192 = .ok (.putfield 116, 3) := by decide +kernel
theorem dX11_takeClause_195 : decode cX11_takeClause 195 = .ok (.iload 4, 2) := by decide +kernel
theorem dX11_takeClause_197 : decode cX11_takeClause 197 = .ok (.ireturn, 1) := by decide +kernel
theorem dX11_copyRow_0 : decode cX11_copyRow 0 = .ok (.iconst 0, 1) := by decide +kernel
theorem dX11_copyRow_1 : decode cX11_copyRow 1 = .ok (.istore_n 3, 1) := by decide +kernel
theorem dX11_copyRow_2 : decode cX11_copyRow 2 = .ok (.iload_n 3, 1) := by decide +kernel
theorem dX11_copyRow_3 : decode cX11_copyRow 3 = .ok (.iload_n 2, 1) := by decide +kernel
theorem dX11_copyRow_4 : decode cX11_copyRow 4 = .ok (.if_icmp .ge 15, 3) := by decide +kernel
theorem dX11_copyRow_7 : decode cX11_copyRow 7 = .ok (.aload_n 1, 1) := by decide +kernel
theorem dX11_copyRow_8 : decode cX11_copyRow 8 = .ok (.iload_n 3, 1) := by decide +kernel
theorem dX11_copyRow_9 : decode cX11_copyRow 9 = .ok (.aload_n 0, 1) := by decide +kernel
theorem dX11_copyRow_10 : decode cX11_copyRow 10 = .ok (.iload_n 3, 1) := by decide +kernel
theorem dX11_copyRow_11 : decode cX11_copyRow 11 = .ok (.iaload, 1) := by decide +kernel
theorem dX11_copyRow_12 : decode cX11_copyRow 12 = .ok (.iastore, 1) := by decide +kernel
theorem dX11_copyRow_13 : decode cX11_copyRow 13 = .ok (.iinc 3 1, 3) := by decide +kernel
theorem dX11_copyRow_16 : decode cX11_copyRow 16 = .ok (.goto (-14), 3) := by decide +kernel
theorem dX11_copyRow_19 : decode cX11_copyRow 19 = .ok (.return_, 1) := by decide +kernel
theorem dX11_beginAll_0 : decode cX11_beginAll 0 = .ok (.iconst 0, 1) := by decide +kernel
theorem dX11_beginAll_1 : decode cX11_beginAll 1 = .ok (.istore_n 1, 1) := by decide +kernel
theorem dX11_beginAll_2 : decode cX11_beginAll 2 = .ok (.iload_n 1, 1) := by decide +kernel
theorem dX11_beginAll_3 : decode cX11_beginAll 3 = .ok (.bipush 59, 2) := by decide +kernel
theorem dX11_beginAll_5 : decode cX11_beginAll 5 = .ok (.if_icmp .ge 16, 3) := by decide +kernel
theorem dX11_beginAll_8 : decode cX11_beginAll 8 = .ok (.aload_n 0, 1) := by decide +kernel
theorem dX11_beginAll_9 : decode cX11_beginAll 9 = .ok (.getfield 34, 3) := by decide +kernel
theorem dX11_beginAll_12 : decode cX11_beginAll 12 = .ok (.iload_n 1, 1) := by decide +kernel
theorem dX11_beginAll_13 : decode cX11_beginAll 13 = .ok (.iconst 0, 1) := by decide +kernel
theorem dX11_beginAll_14 : decode cX11_beginAll 14 = .ok (.iastore, 1) := by decide +kernel
theorem dX11_beginAll_15 : decode cX11_beginAll 15 = .ok (.iinc 1 1, 3) := by decide +kernel
theorem dX11_beginAll_18 : decode cX11_beginAll 18 = .ok (.goto (-16), 3) := by decide +kernel
theorem dX11_beginAll_21 : decode cX11_beginAll 21 = .ok (.iconst 0, 1) := by decide +kernel
theorem dX11_beginAll_22 : decode cX11_beginAll 22 = .ok (.istore_n 1, 1) := by decide +kernel
theorem dX11_beginAll_23 : decode cX11_beginAll 23 = .ok (.iload_n 1, 1) := by decide +kernel
theorem dX11_beginAll_24 : decode cX11_beginAll 24 = .ok (.aload_n 0, 1) := by decide +kernel
theorem dX11_beginAll_25 : decode cX11_beginAll 25 = .ok (.getfield 102, 3) := by decide +kernel
theorem dX11_beginAll_28 : decode cX11_beginAll 28 = .ok (.if_icmp .ge 46, 3) := by decide +kernel
theorem dX11_beginAll_31 : decode cX11_beginAll 31 = .ok (.aload_n 0, 1) := by decide +kernel
theorem dX11_beginAll_32 : decode cX11_beginAll 32 = .ok (.getfield 34, 3) := by decide +kernel
theorem dX11_beginAll_35 : decode cX11_beginAll 35 = .ok (.iload_n 1, 1) := by decide +kernel
theorem dX11_beginAll_36 : decode cX11_beginAll 36 = .ok (.aload_n 0, 1) := by decide +kernel
theorem dX11_beginAll_37 : decode cX11_beginAll 37 = .ok (.getfield 22, 3) := by decide +kernel
theorem dX11_beginAll_40 : decode cX11_beginAll 40 = .ok (.iload_n 1, 1) := by decide +kernel
theorem dX11_beginAll_41 : decode cX11_beginAll 41 = .ok (.iaload, 1) := by decide +kernel
theorem dX11_beginAll_42 : decode cX11_beginAll 42 = .ok (.iastore, 1) := by decide +kernel
theorem dX11_beginAll_43 : decode cX11_beginAll 43 = .ok (.aload_n 0, 1) := by decide +kernel
theorem dX11_beginAll_44 : decode cX11_beginAll 44 = .ok (.getfield 34, 3) := by decide +kernel
theorem dX11_beginAll_47 : decode cX11_beginAll 47 = .ok (.iconst 5, 1) := by decide +kernel
theorem dX11_beginAll_48 : decode cX11_beginAll 48 = .ok (.iload_n 1, 1) := by decide +kernel
theorem dX11_beginAll_49 : decode cX11_beginAll 49 = .ok (.iadd, 1) := by decide +kernel
theorem dX11_beginAll_50 : decode cX11_beginAll 50 = .ok (.aload_n 0, 1) := by decide +kernel
theorem dX11_beginAll_51 : decode cX11_beginAll 51 = .ok (.getfield 31, 3) := by decide +kernel
theorem dX11_beginAll_54 : decode cX11_beginAll 54 = .ok (.iload_n 1, 1) := by decide +kernel
theorem dX11_beginAll_55 : decode cX11_beginAll 55 = .ok (.iaload, 1) := by decide +kernel
theorem dX11_beginAll_56 : decode cX11_beginAll 56 = .ok (.iastore, 1) := by decide +kernel
theorem dX11_beginAll_57 : decode cX11_beginAll 57 = .ok (.aload_n 0, 1) := by decide +kernel
theorem dX11_beginAll_58 : decode cX11_beginAll 58 = .ok (.getfield 34, 3) := by decide +kernel
theorem dX11_beginAll_61 : decode cX11_beginAll 61 = .ok (.bipush 10, 2) := by decide +kernel
theorem dX11_beginAll_63 : decode cX11_beginAll 63 = .ok (.iload_n 1, 1) := by decide +kernel
theorem dX11_beginAll_64 : decode cX11_beginAll 64 = .ok (.iadd, 1) := by decide +kernel
theorem dX11_beginAll_65 : decode cX11_beginAll 65 = .ok (.bipush 60, 2) := by decide +kernel
theorem dX11_beginAll_67 : decode cX11_beginAll 67 = .ok (.iastore, 1) := by decide +kernel
theorem dX11_beginAll_68 : decode cX11_beginAll 68 = .ok (.iinc 1 1, 3) := by decide +kernel
theorem dX11_beginAll_71 : decode cX11_beginAll 71 = .ok (.goto (-48), 3) := by decide +kernel
theorem dX11_beginAll_74 : decode cX11_beginAll 74 = .ok (.aload_n 0, 1) := by decide +kernel
theorem dX11_beginAll_75 : decode cX11_beginAll 75 = .ok (.getfield 34, 3) := by decide +kernel
theorem dX11_beginAll_78 : decode cX11_beginAll 78 = .ok (.bipush 15, 2) := by decide +kernel
theorem dX11_beginAll_80 : decode cX11_beginAll 80 = .ok (.aload_n 0, 1) := by decide +kernel
theorem dX11_beginAll_81 : decode cX11_beginAll 81 = .ok (.getfield 160, 3) := by decide +kernel
theorem dX11_beginAll_84 : decode cX11_beginAll 84 = .ok (.iastore, 1) := by decide +kernel
theorem dX11_beginAll_85 : decode cX11_beginAll 85 = .ok (.iconst 0, 1) := by decide +kernel
theorem dX11_beginAll_86 : decode cX11_beginAll 86 = .ok (.istore_n 1, 1) := by decide +kernel
theorem dX11_beginAll_87 : decode cX11_beginAll 87 = .ok (.iload_n 1, 1) := by decide +kernel
theorem dX11_beginAll_88 : decode cX11_beginAll 88 = .ok (.iconst 4, 1) := by decide +kernel
theorem dX11_beginAll_89 : decode cX11_beginAll 89 = .ok (.if_icmp .ge 64, 3) := by decide +kernel
theorem dX11_beginAll_92 : decode cX11_beginAll 92 = .ok (.aload_n 0, 1) := by decide +kernel
theorem dX11_beginAll_93 : decode cX11_beginAll 93 = .ok (.getfield 34, 3) := by decide +kernel
theorem dX11_beginAll_96 : decode cX11_beginAll 96 = .ok (.bipush 30, 2) := by decide +kernel
theorem dX11_beginAll_98 : decode cX11_beginAll 98 = .ok (.iload_n 1, 1) := by decide +kernel
theorem dX11_beginAll_99 : decode cX11_beginAll 99 = .ok (.iadd, 1) := by decide +kernel
theorem dX11_beginAll_100 : decode cX11_beginAll 100 = .ok (.iconst (-1), 1) := by decide +kernel
theorem dX11_beginAll_101 : decode cX11_beginAll 101 = .ok (.iastore, 1) := by decide +kernel
theorem dX11_beginAll_102 : decode cX11_beginAll 102 = .ok (.aload_n 0, 1) := by decide +kernel
theorem dX11_beginAll_103 : decode cX11_beginAll 103 = .ok (.getfield 34, 3) := by decide +kernel
theorem dX11_beginAll_106 : decode cX11_beginAll 106 = .ok (.bipush 34, 2) := by decide +kernel
theorem dX11_beginAll_108 : decode cX11_beginAll 108 = .ok (.iload_n 1, 1) := by decide +kernel
theorem dX11_beginAll_109 : decode cX11_beginAll 109 = .ok (.iadd, 1) := by decide +kernel
theorem dX11_beginAll_110 : decode cX11_beginAll 110 = .ok (.iconst (-1), 1) := by decide +kernel
theorem dX11_beginAll_111 : decode cX11_beginAll 111 = .ok (.iastore, 1) := by decide +kernel
theorem dX11_beginAll_112 : decode cX11_beginAll 112 = .ok (.iconst 0, 1) := by decide +kernel
theorem dX11_beginAll_113 : decode cX11_beginAll 113 = .ok (.istore_n 2, 1) := by decide +kernel
theorem dX11_beginAll_114 : decode cX11_beginAll 114 = .ok (.iload_n 2, 1) := by decide +kernel
theorem dX11_beginAll_115 : decode cX11_beginAll 115 = .ok (.aload_n 0, 1) := by decide +kernel
theorem dX11_beginAll_116 : decode cX11_beginAll 116 = .ok (.getfield 102, 3) := by decide +kernel
theorem dX11_beginAll_119 : decode cX11_beginAll 119 = .ok (.if_icmp .ge 28, 3) := by decide +kernel
theorem dX11_beginAll_122 : decode cX11_beginAll 122 = .ok (.aload_n 0, 1) := by decide +kernel
theorem dX11_beginAll_123 : decode cX11_beginAll 123 = .ok (.getfield 34, 3) := by decide +kernel
theorem dX11_beginAll_126 : decode cX11_beginAll 126 = .ok (.bipush 38, 2) := by decide +kernel
theorem dX11_beginAll_128 : decode cX11_beginAll 128 = .ok (.iconst 5, 1) := by decide +kernel
theorem dX11_beginAll_129 : decode cX11_beginAll 129 = .ok (.iload_n 1, 1) := by decide +kernel
theorem dX11_beginAll_130 : decode cX11_beginAll 130 = .ok (.imul, 1) := by decide +kernel
theorem dX11_beginAll_131 : decode cX11_beginAll 131 = .ok (.iadd, 1) := by decide +kernel
theorem dX11_beginAll_132 : decode cX11_beginAll 132 = .ok (.iload_n 2, 1) := by decide +kernel
theorem dX11_beginAll_133 : decode cX11_beginAll 133 = .ok (.iadd, 1) := by decide +kernel
theorem dX11_beginAll_134 : decode cX11_beginAll 134 = .ok (.aload_n 0, 1) := by decide +kernel
theorem dX11_beginAll_135 : decode cX11_beginAll 135 = .ok (.getfield 31, 3) := by decide +kernel
theorem dX11_beginAll_138 : decode cX11_beginAll 138 = .ok (.iload_n 2, 1) := by decide +kernel
theorem dX11_beginAll_139 : decode cX11_beginAll 139 = .ok (.iaload, 1) := by decide +kernel
theorem dX11_beginAll_140 : decode cX11_beginAll 140 = .ok (.iastore, 1) := by decide +kernel
theorem dX11_beginAll_141 : decode cX11_beginAll 141 = .ok (.iinc 2 1, 3) := by decide +kernel
theorem dX11_beginAll_144 : decode cX11_beginAll 144 = .ok (.goto (-30), 3) := by decide +kernel
theorem dX11_beginAll_147 : decode cX11_beginAll 147 = .ok (.iinc 1 1, 3) := by decide +kernel
theorem dX11_beginAll_150 : decode cX11_beginAll 150 = .ok (.goto (-63), 3) := by decide +kernel
theorem dX11_beginAll_153 : decode cX11_beginAll 153 = .ok (.return_, 1) := by decide +kernel
theorem dX11_takeRead_0 : decode cX11_takeRead 0 = .ok (.aload_n 0, 1) := by decide +kernel
theorem dX11_takeRead_1 : decode cX11_takeRead 1 = .ok (.aload_n 0, 1) := by decide +kernel
theorem dX11_takeRead_2 : decode cX11_takeRead 2 = .ok (.getfield 137, 3) := by decide +kernel
theorem dX11_takeRead_5 : decode cX11_takeRead 5 = .ok (.putfield 163, 3) := by decide +kernel
theorem dX11_takeRead_8 : decode cX11_takeRead 8 = .ok (.aload_n 0, 1) := by decide +kernel
theorem dX11_takeRead_9 : decode cX11_takeRead 9 = .ok (.aload_n 0, 1) := by decide +kernel
theorem dX11_takeRead_10 : decode cX11_takeRead 10 = .ok (.getfield 137, 3) := by decide +kernel
theorem dX11_takeRead_13 : decode cX11_takeRead 13 = .ok (.ifCond .eq 12, 3) := by decide +kernel
theorem dX11_takeRead_16 : decode cX11_takeRead 16 = .ok (.aload_n 0, 1) := by decide +kernel
theorem dX11_takeRead_17 : decode cX11_takeRead 17 = .ok (.getfield 44, 3) := by decide +kernel
theorem dX11_takeRead_20 : decode cX11_takeRead 20 = .ok (.iconst 0, 1) := by decide +kernel
theorem dX11_takeRead_21 : decode cX11_takeRead 21 = .ok (.iaload, 1) := by decide +kernel
theorem dX11_takeRead_22 : decode cX11_takeRead 22 = .ok (.goto 4, 3) := by decide +kernel
theorem dX11_takeRead_25 : decode cX11_takeRead 25 = .ok (.iconst 0, 1) := by decide +kernel
theorem dX11_takeRead_26 : decode cX11_takeRead 26 = .ok (.putfield 160, 3) := by decide +kernel
theorem dX11_takeRead_29 : decode cX11_takeRead 29 = .ok (.aload_n 0, 1) := by decide +kernel
theorem dX11_takeRead_30 : decode cX11_takeRead 30 = .ok (.aload_n 0, 1) := by decide +kernel
theorem dX11_takeRead_31 : decode cX11_takeRead 31 = .ok (.getfield 137, 3) := by decide +kernel
theorem dX11_takeRead_34 : decode cX11_takeRead 34 = .ok (.ifCond .eq 12, 3) := by decide +kernel
theorem dX11_takeRead_37 : decode cX11_takeRead 37 = .ok (.aload_n 0, 1) := by decide +kernel
theorem dX11_takeRead_38 : decode cX11_takeRead 38 = .ok (.getfield 44, 3) := by decide +kernel
theorem dX11_takeRead_41 : decode cX11_takeRead 41 = .ok (.iconst 1, 1) := by decide +kernel
theorem dX11_takeRead_42 : decode cX11_takeRead 42 = .ok (.iaload, 1) := by decide +kernel
theorem dX11_takeRead_43 : decode cX11_takeRead 43 = .ok (.goto 4, 3) := by decide +kernel
theorem dX11_takeRead_46 : decode cX11_takeRead 46 = .ok (.iconst 0, 1) := by decide +kernel
theorem dX11_takeRead_47 : decode cX11_takeRead 47 = .ok (.putfield 166, 3) := by decide +kernel
theorem dX11_takeRead_50 : decode cX11_takeRead 50 = .ok (.aload_n 0, 1) := by decide +kernel
theorem dX11_takeRead_51 : decode cX11_takeRead 51 = .ok (.aload_n 0, 1) := by decide +kernel
theorem dX11_takeRead_52 : decode cX11_takeRead 52 = .ok (.getfield 145, 3) := by decide +kernel
theorem dX11_takeRead_55 : decode cX11_takeRead 55 = .ok (.putfield 99, 3) := by decide +kernel
theorem dX11_takeRead_58 : decode cX11_takeRead 58 = .ok (.aload_n 0, 1) := by decide +kernel
theorem dX11_takeRead_59 : decode cX11_takeRead 59 = .ok (.aload_n 0, 1) := by decide +kernel
theorem dX11_takeRead_60 : decode cX11_takeRead 60 = .ok (.getfield 148, 3) := by decide +kernel
theorem dX11_takeRead_63 : decode cX11_takeRead 63 = .ok (.putfield 102, 3) := by decide +kernel
theorem dX11_takeRead_66 : decode cX11_takeRead 66 = .ok (.aload_n 0, 1) := by decide +kernel
theorem dX11_takeRead_67 : decode cX11_takeRead 67 = .ok (.getfield 47, 3) := by decide +kernel
theorem dX11_takeRead_70 : decode cX11_takeRead 70 = .ok (.aload_n 0, 1) := by decide +kernel
theorem dX11_takeRead_71 : decode cX11_takeRead 71 = .ok (.getfield 7, 3) := by decide +kernel
theorem dX11_takeRead_74 : decode cX11_takeRead 74 = .ok (.aload_n 0, 1) := by decide +kernel
theorem dX11_takeRead_75 : decode cX11_takeRead 75 = .ok (.getfield 99, 3) := by decide +kernel
theorem dX11_takeRead_78 : decode cX11_takeRead 78 = .ok (.invokestatic 169, 3) := by decide +kernel
theorem dX11_takeRead_81 : decode cX11_takeRead 81 = .ok (.aload_n 0, 1) := by decide +kernel
theorem dX11_takeRead_82 : decode cX11_takeRead 82 = .ok (.getfield 50, 3) := by decide +kernel
theorem dX11_takeRead_85 : decode cX11_takeRead 85 = .ok (.aload_n 0, 1) := by decide +kernel
theorem dX11_takeRead_86 : decode cX11_takeRead 86 = .ok (.getfield 13, 3) := by decide +kernel
theorem dX11_takeRead_89 : decode cX11_takeRead 89 = .ok (.aload_n 0, 1) := by decide +kernel
theorem dX11_takeRead_90 : decode cX11_takeRead 90 = .ok (.getfield 99, 3) := by decide +kernel
theorem dX11_takeRead_93 : decode cX11_takeRead 93 = .ok (.invokestatic 169, 3) := by decide +kernel
theorem dX11_takeRead_96 : decode cX11_takeRead 96 = .ok (.aload_n 0, 1) := by decide +kernel
theorem dX11_takeRead_97 : decode cX11_takeRead 97 = .ok (.getfield 53, 3) := by decide +kernel
theorem dX11_takeRead_100 : decode cX11_takeRead 100 = .ok (.aload_n 0, 1) := by decide +kernel
theorem dX11_takeRead_101 : decode cX11_takeRead 101 = .ok (.getfield 16, 3) := by decide +kernel
theorem dX11_takeRead_104 : decode cX11_takeRead 104 = .ok (.aload_n 0, 1) := by decide +kernel
theorem dX11_takeRead_105 : decode cX11_takeRead 105 = .ok (.getfield 99, 3) := by decide +kernel
theorem dX11_takeRead_108 : decode cX11_takeRead 108 = .ok (.invokestatic 169, 3) := by decide +kernel
theorem dX11_takeRead_111 : decode cX11_takeRead 111 = .ok (.aload_n 0, 1) := by decide +kernel
theorem dX11_takeRead_112 : decode cX11_takeRead 112 = .ok (.getfield 56, 3) := by decide +kernel
theorem dX11_takeRead_115 : decode cX11_takeRead 115 = .ok (.aload_n 0, 1) := by decide +kernel
theorem dX11_takeRead_116 : decode cX11_takeRead 116 = .ok (.getfield 19, 3) := by decide +kernel
theorem dX11_takeRead_119 : decode cX11_takeRead 119 = .ok (.aload_n 0, 1) := by decide +kernel
theorem dX11_takeRead_120 : decode cX11_takeRead 120 = .ok (.getfield 102, 3) := by decide +kernel
theorem dX11_takeRead_123 : decode cX11_takeRead 123 = .ok (.invokestatic 169, 3) := by decide +kernel
theorem dX11_takeRead_126 : decode cX11_takeRead 126 = .ok (.aload_n 0, 1) := by decide +kernel
theorem dX11_takeRead_127 : decode cX11_takeRead 127 = .ok (.getfield 59, 3) := by decide +kernel
theorem dX11_takeRead_130 : decode cX11_takeRead 130 = .ok (.aload_n 0, 1) := by decide +kernel
theorem dX11_takeRead_131 : decode cX11_takeRead 131 = .ok (.getfield 22, 3) := by decide +kernel
theorem dX11_takeRead_134 : decode cX11_takeRead 134 = .ok (.aload_n 0, 1) := by decide +kernel
theorem dX11_takeRead_135 : decode cX11_takeRead 135 = .ok (.getfield 102, 3) := by decide +kernel
theorem dX11_takeRead_138 : decode cX11_takeRead 138 = .ok (.invokestatic 169, 3) := by decide +kernel
theorem dX11_takeRead_141 : decode cX11_takeRead 141 = .ok (.aload_n 0, 1) := by decide +kernel
theorem dX11_takeRead_142 : decode cX11_takeRead 142 = .ok (.getfield 62, 3) := by decide +kernel
theorem dX11_takeRead_145 : decode cX11_takeRead 145 = .ok (.aload_n 0, 1) := by decide +kernel
theorem dX11_takeRead_146 : decode cX11_takeRead 146 = .ok (.getfield 25, 3) := by decide +kernel
theorem dX11_takeRead_149 : decode cX11_takeRead 149 = .ok (.aload_n 0, 1) := by decide +kernel
theorem dX11_takeRead_150 : decode cX11_takeRead 150 = .ok (.getfield 102, 3) := by decide +kernel
theorem dX11_takeRead_153 : decode cX11_takeRead 153 = .ok (.invokestatic 169, 3) := by decide +kernel
theorem dX11_takeRead_156 : decode cX11_takeRead 156 = .ok (.aload_n 0, 1) := by decide +kernel
theorem dX11_takeRead_157 : decode cX11_takeRead 157 = .ok (.getfield 65, 3) := by decide +kernel
theorem dX11_takeRead_160 : decode cX11_takeRead 160 = .ok (.aload_n 0, 1) := by decide +kernel
theorem dX11_takeRead_161 : decode cX11_takeRead 161 = .ok (.getfield 28, 3) := by decide +kernel
theorem dX11_takeRead_164 : decode cX11_takeRead 164 = .ok (.aload_n 0, 1) := by decide +kernel
theorem dX11_takeRead_165 : decode cX11_takeRead 165 = .ok (.getfield 102, 3) := by decide +kernel
theorem dX11_takeRead_168 : decode cX11_takeRead 168 = .ok (.invokestatic 169, 3) := by decide +kernel
theorem dX11_takeRead_171 : decode cX11_takeRead 171 = .ok (.aload_n 0, 1) := by decide +kernel
theorem dX11_takeRead_172 : decode cX11_takeRead 172 = .ok (.getfield 68, 3) := by decide +kernel
theorem dX11_takeRead_175 : decode cX11_takeRead 175 = .ok (.aload_n 0, 1) := by decide +kernel
theorem dX11_takeRead_176 : decode cX11_takeRead 176 = .ok (.getfield 31, 3) := by decide +kernel
theorem dX11_takeRead_179 : decode cX11_takeRead 179 = .ok (.aload_n 0, 1) := by decide +kernel
theorem dX11_takeRead_180 : decode cX11_takeRead 180 = .ok (.getfield 102, 3) := by decide +kernel
theorem dX11_takeRead_183 : decode cX11_takeRead 183 = .ok (.invokestatic 169, 3) := by decide +kernel
theorem dX11_takeRead_186 : decode cX11_takeRead 186 = .ok (.aload_n 0, 1) := by decide +kernel
theorem dX11_takeRead_187 : decode cX11_takeRead 187 = .ok (.invokevirtual 173, 3) := by decide +kernel
theorem dX11_takeRead_190 : decode cX11_takeRead 190 = .ok (.return_, 1) := by decide +kernel
theorem dX11_street_0 : decode cX11_street 0 = .ok (.aload_n 0, 1) := by decide +kernel
theorem dX11_street_1 : decode cX11_street 1 = .ok (.iconst (-1), 1) := by decide +kernel
theorem dX11_street_2 : decode cX11_street 2 = .ok (.putfield 40, 3) := by decide +kernel
theorem dX11_street_5 : decode cX11_street 5 = .ok (.aload_n 0, 1) := by decide +kernel
theorem dX11_street_6 : decode cX11_street 6 = .ok (.iconst 0, 1) := by decide +kernel
theorem dX11_street_7 : decode cX11_street 7 = .ok (.putfield 116, 3) := by decide +kernel
theorem dX11_street_10 : decode cX11_street 10 = .ok (.aload_n 0, 1) := by decide +kernel
theorem dX11_street_11 : decode cX11_street 11 = .ok (.iconst 0, 1) := by decide +kernel
theorem dX11_street_12 : decode cX11_street 12 = .ok (.putfield 137, 3) := by decide +kernel
theorem dX11_street_15 : decode cX11_street 15 = .ok (.aload_n 0, 1) := by decide +kernel
theorem dX11_street_16 : decode cX11_street 16 = .ok (.iconst 0, 1) := by decide +kernel
theorem dX11_street_17 : decode cX11_street 17 = .ok (.putfield 145, 3) := by decide +kernel
theorem dX11_street_20 : decode cX11_street 20 = .ok (.aload_n 0, 1) := by decide +kernel
theorem dX11_street_21 : decode cX11_street 21 = .ok (.iconst 0, 1) := by decide +kernel
theorem dX11_street_22 : decode cX11_street 22 = .ok (.putfield 148, 3) := by decide +kernel
theorem dX11_street_25 : decode cX11_street 25 = .ok (.iconst 0, 1) := by decide +kernel
theorem dX11_street_26 : decode cX11_street 26 = .ok (.istore_n 1, 1) := by decide +kernel
theorem dX11_street_27 : decode cX11_street 27 = .ok (.iload_n 1, 1) := by decide +kernel
theorem dX11_street_28 : decode cX11_street 28 = .ok (.ifCond .ne 18, 3) := by decide +kernel
theorem dX11_street_31 : decode cX11_street 31 = .ok (.aload_n 0, 1) := by decide +kernel
theorem dX11_street_32 : decode cX11_street 32 = .ok (.invokevirtual 119, 3) := by decide +kernel
theorem dX11_street_35 : decode cX11_street 35 = .ok (.ifCond .lt 11, 3) := by decide +kernel
theorem dX11_street_38 : decode cX11_street 38 = .ok (.aload_n 0, 1) := by decide +kernel
theorem dX11_street_39 : decode cX11_street 39 = .ok (.invokevirtual 176, 3) := by decide +kernel
theorem dX11_street_42 : decode cX11_street 42 = .ok (.istore_n 1, 1) := by decide +kernel
theorem dX11_street_43 : decode cX11_street 43 = .ok (.goto (-16), 3) := by decide +kernel
theorem dX11_street_46 : decode cX11_street 46 = .ok (.aload_n 0, 1) := by decide +kernel
theorem dX11_street_47 : decode cX11_street 47 = .ok (.iconst 0, 1) := by decide +kernel
theorem dX11_street_48 : decode cX11_street 48 = .ok (.putfield 112, 3) := by decide +kernel
theorem dX11_street_51 : decode cX11_street 51 = .ok (.iload_n 1, 1) := by decide +kernel
theorem dX11_street_52 : decode cX11_street 52 = .ok (.ifCond .le 8, 3) := by decide +kernel
theorem dX11_street_55 : decode cX11_street 55 = .ok (.bipush (-10), 2) := by decide +kernel
theorem dX11_street_57 : decode cX11_street 57 = .ok (.iload_n 1, 1) := by decide +kernel
theorem dX11_street_58 : decode cX11_street 58 = .ok (.isub, 1) := by decide +kernel
theorem dX11_street_59 : decode cX11_street 59 = .ok (.ireturn, 1) := by decide +kernel
theorem dX11_street_60 : decode cX11_street 60 = .ok (.aload_n 0, 1) := by decide +kernel
theorem dX11_street_61 : decode cX11_street 61 = .ok (.invokevirtual 179, 3) := by decide +kernel
theorem dX11_street_64 : decode cX11_street 64 = .ok (.aload_n 0, 1) := by decide +kernel
theorem dX11_street_65 : decode cX11_street 65 = .ok (.iconst 0, 1) := by decide +kernel
theorem dX11_street_66 : decode cX11_street 66 = .ok (.putfield 182, 3) := by decide +kernel
theorem dX11_street_69 : decode cX11_street 69 = .ok (.aload_n 0, 1) := by decide +kernel
theorem dX11_street_70 : decode cX11_street 70 = .ok (.iconst 0, 1) := by decide +kernel
theorem dX11_street_71 : decode cX11_street 71 = .ok (.putfield 185, 3) := by decide +kernel
theorem dX11_street_74 : decode cX11_street 74 = .ok (.aload_n 0, 1) := by decide +kernel
theorem dX11_street_75 : decode cX11_street 75 = .ok (.iconst 0, 1) := by decide +kernel
theorem dX11_street_76 : decode cX11_street 76 = .ok (.putfield 188, 3) := by decide +kernel
theorem dX11_street_79 : decode cX11_street 79 = .ok (.aload_n 0, 1) := by decide +kernel
theorem dX11_street_80 : decode cX11_street 80 = .ok (.getfield 95, 3) := by decide +kernel
theorem dX11_street_83 : decode cX11_street 83 = .ok (.iconst 0, 1) := by decide +kernel
theorem dX11_street_84 : decode cX11_street 84 = .ok (.iconst 0, 1) := by decide +kernel
theorem dX11_street_85 : decode cX11_street 85 = .ok (.bastore, 1) := by decide +kernel
theorem dX11_street_86 : decode cX11_street 86 = .ok (.aload_n 0, 1) := by decide +kernel
theorem dX11_street_87 : decode cX11_street 87 = .ok (.getfield 95, 3) := by decide +kernel
theorem dX11_street_90 : decode cX11_street 90 = .ok (.iconst 1, 1) := by decide +kernel
theorem dX11_street_91 : decode cX11_street 91 = .ok (.iconst 0, 1) := by decide +kernel
theorem dX11_street_92 : decode cX11_street 92 = .ok (.bastore, 1) := by decide +kernel
theorem dX11_street_93 : decode cX11_street 93 = .ok (.aload_n 0, 1) := by decide +kernel
theorem dX11_street_94 : decode cX11_street 94 = .ok (.getfield 102, 3) := by decide +kernel
theorem dX11_street_97 : decode cX11_street 97 = .ok (.ireturn, 1) := by decide +kernel
theorem dX11_fault_0 : decode cX11_fault 0 = .ok (.aload_n 0, 1) := by decide +kernel
theorem dX11_fault_1 : decode cX11_fault 1 = .ok (.getfield 40, 3) := by decide +kernel
theorem dX11_fault_4 : decode cX11_fault 4 = .ok (.ireturn, 1) := by decide +kernel
theorem dX11_codeOf_0 : decode cX11_codeOf 0 = .ok (.iload_n 0, 1) := by decide +kernel
theorem dX11_codeOf_1 : decode cX11_codeOf 1 = .ok (.bipush 61, 2) := by decide +kernel
theorem dX11_codeOf_3 : decode cX11_codeOf 3 = .ok (.imul, 1) := by decide +kernel
theorem dX11_codeOf_4 : decode cX11_codeOf 4 = .ok (.iload_n 1, 1) := by decide +kernel
theorem dX11_codeOf_5 : decode cX11_codeOf 5 = .ok (.bipush 13, 2) := by decide +kernel
theorem dX11_codeOf_7 : decode cX11_codeOf 7 = .ok (.imul, 1) := by decide +kernel
theorem dX11_codeOf_8 : decode cX11_codeOf 8 = .ok (.iadd, 1) := by decide +kernel
theorem dX11_codeOf_9 : decode cX11_codeOf 9 = .ok (.iload_n 0, 1) := by decide +kernel
theorem dX11_codeOf_10 : decode cX11_codeOf 10 = .ok (.iload_n 1, 1) := by decide +kernel
theorem dX11_codeOf_11 : decode cX11_codeOf 11 = .ok (.imul, 1) := by decide +kernel
theorem dX11_codeOf_12 : decode cX11_codeOf 12 = .ok (.iadd, 1) := by decide +kernel
theorem dX11_codeOf_13 : decode cX11_codeOf 13 = .ok (.sipush 509, 3) := by decide +kernel
theorem dX11_codeOf_16 : decode cX11_codeOf 16 = .ok (.irem, 1) := by decide +kernel
theorem dX11_codeOf_17 : decode cX11_codeOf 17 = .ok (.ireturn, 1) := by decide +kernel
theorem dX11_code_0 : decode cX11_code 0 = .ok (.iload_n 1, 1) := by decide +kernel
theorem dX11_code_1 : decode cX11_code 1 = .ok (.i2l, 1) := by decide +kernel
theorem dX11_code_2 : decode cX11_code 2 = .ok (.lconst 0, 1) := by decide +kernel
theorem dX11_code_3 : decode cX11_code 3 = .ok (.ldc2_w 109, 3) := by decide +kernel
theorem dX11_code_6 : decode cX11_code 6 = .ok (.invokestatic 105, 3) := by decide +kernel
theorem dX11_code_9 : decode cX11_code 9 = .ok (.ifCond .eq 23, 3) := by decide +kernel
theorem dX11_code_12 : decode cX11_code 12 = .ok (.iload_n 2, 1) := by decide +kernel
theorem dX11_code_13 : decode cX11_code 13 = .ok (.i2l, 1) := by decide +kernel
theorem dX11_code_14 : decode cX11_code 14 = .ok (.lconst 0, 1) := by decide +kernel
theorem dX11_code_15 : decode cX11_code 15 = .ok (.ldc2_w 191, 3) := by decide +kernel
theorem dX11_code_18 : decode cX11_code 18 = .ok (.invokestatic 105, 3) := by decide +kernel
theorem dX11_code_21 : decode cX11_code 21 = .ok (.ifCond .eq 11, 3) := by decide +kernel
theorem dX11_code_24 : decode cX11_code 24 = .ok (.iload_n 1, 1) := by decide +kernel
theorem dX11_code_25 : decode cX11_code 25 = .ok (.iload_n 2, 1) := by decide +kernel
theorem dX11_code_26 : decode cX11_code 26 = .ok (.invokestatic 193, 3) := by decide +kernel
theorem dX11_code_29 : decode cX11_code 29 = .ok (.goto 5, 3) := by decide +kernel
theorem dX11_code_32 : decode cX11_code 32 = .ok (.ldc 111, 2) := by decide +kernel
theorem dX11_code_34 : decode cX11_code 34 = .ok (.ireturn, 1) := by decide +kernel
theorem dX11_aheadOf_0 : decode cX11_aheadOf 0 = .ok (.aload_n 0, 1) := by decide +kernel
theorem dX11_aheadOf_1 : decode cX11_aheadOf 1 = .ok (.getfield 34, 3) := by decide +kernel
theorem dX11_aheadOf_4 : decode cX11_aheadOf 4 = .ok (.iconst 5, 1) := by decide +kernel
theorem dX11_aheadOf_5 : decode cX11_aheadOf 5 = .ok (.iload_n 2, 1) := by decide +kernel
theorem dX11_aheadOf_6 : decode cX11_aheadOf 6 = .ok (.iadd, 1) := by decide +kernel
theorem dX11_aheadOf_7 : decode cX11_aheadOf 7 = .ok (.iaload, 1) := by decide +kernel
theorem dX11_aheadOf_8 : decode cX11_aheadOf 8 = .ok (.sipush 10000, 3) := by decide +kernel
theorem dX11_aheadOf_11 : decode cX11_aheadOf 11 = .ok (.iadd, 1) := by decide +kernel
theorem dX11_aheadOf_12 : decode cX11_aheadOf 12 = .ok (.aload_n 0, 1) := by decide +kernel
theorem dX11_aheadOf_13 : decode cX11_aheadOf 13 = .ok (.getfield 34, 3) := by decide +kernel
theorem dX11_aheadOf_16 : decode cX11_aheadOf 16 = .ok (.bipush 38, 2) := by decide +kernel
theorem dX11_aheadOf_18 : decode cX11_aheadOf 18 = .ok (.iconst 5, 1) := by decide +kernel
theorem dX11_aheadOf_19 : decode cX11_aheadOf 19 = .ok (.iload_n 1, 1) := by decide +kernel
theorem dX11_aheadOf_20 : decode cX11_aheadOf 20 = .ok (.imul, 1) := by decide +kernel
theorem dX11_aheadOf_21 : decode cX11_aheadOf 21 = .ok (.iadd, 1) := by decide +kernel
theorem dX11_aheadOf_22 : decode cX11_aheadOf 22 = .ok (.iload_n 2, 1) := by decide +kernel
theorem dX11_aheadOf_23 : decode cX11_aheadOf 23 = .ok (.iadd, 1) := by decide +kernel
theorem dX11_aheadOf_24 : decode cX11_aheadOf 24 = .ok (.iaload, 1) := by decide +kernel
theorem dX11_aheadOf_25 : decode cX11_aheadOf 25 = .ok (.isub, 1) := by decide +kernel
theorem dX11_aheadOf_26 : decode cX11_aheadOf 26 = .ok (.sipush 10000, 3) := by decide +kernel
theorem dX11_aheadOf_29 : decode cX11_aheadOf 29 = .ok (.irem, 1) := by decide +kernel
theorem dX11_aheadOf_30 : decode cX11_aheadOf 30 = .ok (.ireturn, 1) := by decide +kernel
theorem dX11_openBy_0 : decode cX11_openBy 0 = .ok (.aload_n 0, 1) := by decide +kernel
theorem dX11_openBy_1 : decode cX11_openBy 1 = .ok (.getfield 34, 3) := by decide +kernel
theorem dX11_openBy_4 : decode cX11_openBy 4 = .ok (.bipush 38, 2) := by decide +kernel
theorem dX11_openBy_6 : decode cX11_openBy 6 = .ok (.iconst 5, 1) := by decide +kernel
theorem dX11_openBy_7 : decode cX11_openBy 7 = .ok (.iload_n 1, 1) := by decide +kernel
theorem dX11_openBy_8 : decode cX11_openBy 8 = .ok (.imul, 1) := by decide +kernel
theorem dX11_openBy_9 : decode cX11_openBy 9 = .ok (.iadd, 1) := by decide +kernel
theorem dX11_openBy_10 : decode cX11_openBy 10 = .ok (.iload_n 2, 1) := by decide +kernel
theorem dX11_openBy_11 : decode cX11_openBy 11 = .ok (.iadd, 1) := by decide +kernel
theorem dX11_openBy_12 : decode cX11_openBy 12 = .ok (.iload_n 3, 1) := by decide +kernel
theorem dX11_openBy_13 : decode cX11_openBy 13 = .ok (.iastore, 1) := by decide +kernel
theorem dX11_openBy_14 : decode cX11_openBy 14 = .ok (.aload_n 0, 1) := by decide +kernel
theorem dX11_openBy_15 : decode cX11_openBy 15 = .ok (.getfield 34, 3) := by decide +kernel
theorem dX11_openBy_18 : decode cX11_openBy 18 = .ok (.bipush 26, 2) := by decide +kernel
theorem dX11_openBy_20 : decode cX11_openBy 20 = .ok (.iload_n 1, 1) := by decide +kernel
theorem dX11_openBy_21 : decode cX11_openBy 21 = .ok (.iadd, 1) := by decide +kernel
theorem dX11_openBy_22 : decode cX11_openBy 22 = .ok (.dup2, 1) := by decide +kernel
theorem dX11_openBy_23 : decode cX11_openBy 23 = .ok (.iaload, 1) := by decide +kernel
theorem dX11_openBy_24 : decode cX11_openBy 24 = .ok (.aload_n 0, 1) := by decide +kernel
theorem dX11_openBy_25 : decode cX11_openBy 25 = .ok (.getfield 34, 3) := by decide +kernel
theorem dX11_openBy_28 : decode cX11_openBy 28 = .ok (.bipush 26, 2) := by decide +kernel
theorem dX11_openBy_30 : decode cX11_openBy 30 = .ok (.iload_n 1, 1) := by decide +kernel
theorem dX11_openBy_31 : decode cX11_openBy 31 = .ok (.iadd, 1) := by decide +kernel
theorem dX11_openBy_32 : decode cX11_openBy 32 = .ok (.iaload, 1) := by decide +kernel
theorem dX11_openBy_33 : decode cX11_openBy 33 = .ok (.sipush 9999, 3) := by decide +kernel
theorem dX11_openBy_36 : decode cX11_openBy 36 = .ok (.if_icmp .ge 7, 3) := by decide +kernel
theorem dX11_openBy_39 : decode cX11_openBy 39 = .ok (.iconst 1, 1) := by decide +kernel
theorem dX11_openBy_40 : decode cX11_openBy 40 = .ok (.goto 4, 3) := by decide +kernel
theorem dX11_openBy_43 : decode cX11_openBy 43 = .ok (.iconst 0, 1) := by decide +kernel
theorem dX11_openBy_44 : decode cX11_openBy 44 = .ok (.iadd, 1) := by decide +kernel
theorem dX11_openBy_45 : decode cX11_openBy 45 = .ok (.iastore, 1) := by decide +kernel
theorem dX11_openBy_46 : decode cX11_openBy 46 = .ok (.aload_n 0, 1) := by decide +kernel
theorem dX11_openBy_47 : decode cX11_openBy 47 = .ok (.getfield 34, 3) := by decide +kernel
theorem dX11_openBy_50 : decode cX11_openBy 50 = .ok (.bipush 30, 2) := by decide +kernel
theorem dX11_openBy_52 : decode cX11_openBy 52 = .ok (.iload_n 1, 1) := by decide +kernel
theorem dX11_openBy_53 : decode cX11_openBy 53 = .ok (.iadd, 1) := by decide +kernel
theorem dX11_openBy_54 : decode cX11_openBy 54 = .ok (.iconst (-1), 1) := by decide +kernel
theorem dX11_openBy_55 : decode cX11_openBy 55 = .ok (.iastore, 1) := by decide +kernel
theorem dX11_openBy_56 : decode cX11_openBy 56 = .ok (.aload_n 0, 1) := by decide +kernel
theorem dX11_openBy_57 : decode cX11_openBy 57 = .ok (.getfield 34, 3) := by decide +kernel
theorem dX11_openBy_60 : decode cX11_openBy 60 = .ok (.bipush 34, 2) := by decide +kernel
theorem dX11_openBy_62 : decode cX11_openBy 62 = .ok (.iload_n 1, 1) := by decide +kernel
theorem dX11_openBy_63 : decode cX11_openBy 63 = .ok (.iadd, 1) := by decide +kernel
theorem dX11_openBy_64 : decode cX11_openBy 64 = .ok (.iconst (-1), 1) := by decide +kernel
theorem dX11_openBy_65 : decode cX11_openBy 65 = .ok (.iastore, 1) := by decide +kernel
theorem dX11_openBy_66 : decode cX11_openBy 66 = .ok (.return_, 1) := by decide +kernel
theorem dX11_matchOf_0 : decode cX11_matchOf 0 = .ok (.aload_n 0, 1) := by decide +kernel
theorem dX11_matchOf_1 : decode cX11_matchOf 1 = .ok (.getfield 7, 3) := by decide +kernel
theorem dX11_matchOf_4 : decode cX11_matchOf 4 = .ok (.iload_n 1, 1) := by decide +kernel
theorem dX11_matchOf_5 : decode cX11_matchOf 5 = .ok (.iaload, 1) := by decide +kernel
theorem dX11_matchOf_6 : decode cX11_matchOf 6 = .ok (.iconst 2, 1) := by decide +kernel
theorem dX11_matchOf_7 : decode cX11_matchOf 7 = .ok (.if_icmp .ne 7, 3) := by decide +kernel
theorem dX11_matchOf_10 : decode cX11_matchOf 10 = .ok (.iconst 0, 1) := by decide +kernel
theorem dX11_matchOf_11 : decode cX11_matchOf 11 = .ok (.goto 4, 3) := by decide +kernel
theorem dX11_matchOf_14 : decode cX11_matchOf 14 = .ok (.iconst 1, 1) := by decide +kernel
theorem dX11_matchOf_15 : decode cX11_matchOf 15 = .ok (.istore 4, 2) := by decide +kernel
theorem dX11_matchOf_17 : decode cX11_matchOf 17 = .ok (.aload_n 0, 1) := by decide +kernel
theorem dX11_matchOf_18 : decode cX11_matchOf 18 = .ok (.getfield 7, 3) := by decide +kernel
theorem dX11_matchOf_21 : decode cX11_matchOf 21 = .ok (.iload_n 1, 1) := by decide +kernel
theorem dX11_matchOf_22 : decode cX11_matchOf 22 = .ok (.iaload, 1) := by decide +kernel
theorem dX11_matchOf_23 : decode cX11_matchOf 23 = .ok (.iconst 1, 1) := by decide +kernel
theorem dX11_matchOf_24 : decode cX11_matchOf 24 = .ok (.if_icmp .ne 7, 3) := by decide +kernel
theorem dX11_matchOf_27 : decode cX11_matchOf 27 = .ok (.iconst 1, 1) := by decide +kernel
theorem dX11_matchOf_28 : decode cX11_matchOf 28 = .ok (.goto 9, 3) := by decide +kernel
theorem dX11_matchOf_31 : decode cX11_matchOf 31 = .ok (.aload_n 0, 1) := by decide +kernel
theorem dX11_matchOf_32 : decode cX11_matchOf 32 = .ok (.getfield 16, 3) := by decide +kernel
theorem dX11_matchOf_35 : decode cX11_matchOf 35 = .ok (.iload_n 1, 1) := by decide +kernel
theorem dX11_matchOf_36 : decode cX11_matchOf 36 = .ok (.iaload, 1) := by decide +kernel
theorem dX11_matchOf_37 : decode cX11_matchOf 37 = .ok (.istore 5, 2) := by decide +kernel
theorem dX11_matchOf_39 : decode cX11_matchOf 39 = .ok (.iload 4, 2) := by decide +kernel
theorem dX11_matchOf_41 : decode cX11_matchOf 41 = .ok (.istore 6, 2) := by decide +kernel
theorem dX11_matchOf_43 : decode cX11_matchOf 43 = .ok (.iload 6, 2) := by decide +kernel
theorem dX11_matchOf_45 : decode cX11_matchOf 45 = .ok (.iload 5, 2) := by decide +kernel
theorem dX11_matchOf_47 : decode cX11_matchOf 47 = .ok (.if_icmp .gt 45, 3) := by decide +kernel
theorem dX11_matchOf_50 : decode cX11_matchOf 50 = .ok (.aload_n 0, 1) := by decide +kernel
theorem dX11_matchOf_51 : decode cX11_matchOf 51 = .ok (.getfield 28, 3) := by decide +kernel
theorem dX11_matchOf_54 : decode cX11_matchOf 54 = .ok (.iload_n 2, 1) := by decide +kernel
theorem dX11_matchOf_55 : decode cX11_matchOf 55 = .ok (.iaload, 1) := by decide +kernel
theorem dX11_matchOf_56 : decode cX11_matchOf 56 = .ok (.aload_n 0, 1) := by decide +kernel
theorem dX11_matchOf_57 : decode cX11_matchOf 57 = .ok (.getfield 34, 3) := by decide +kernel
theorem dX11_matchOf_60 : decode cX11_matchOf 60 = .ok (.bipush 38, 2) := by decide +kernel
theorem dX11_matchOf_62 : decode cX11_matchOf 62 = .ok (.iconst 5, 1) := by decide +kernel
theorem dX11_matchOf_63 : decode cX11_matchOf 63 = .ok (.iload_n 1, 1) := by decide +kernel
theorem dX11_matchOf_64 : decode cX11_matchOf 64 = .ok (.imul, 1) := by decide +kernel
theorem dX11_matchOf_65 : decode cX11_matchOf 65 = .ok (.iadd, 1) := by decide +kernel
theorem dX11_matchOf_66 : decode cX11_matchOf 66 = .ok (.iload_n 2, 1) := by decide +kernel
theorem dX11_matchOf_67 : decode cX11_matchOf 67 = .ok (.iadd, 1) := by decide +kernel
theorem dX11_matchOf_68 : decode cX11_matchOf 68 = .ok (.iaload, 1) := by decide +kernel
theorem dX11_matchOf_69 : decode cX11_matchOf 69 = .ok (.iload 6, 2) := by decide +kernel
theorem dX11_matchOf_71 : decode cX11_matchOf 71 = .ok (.iadd, 1) := by decide +kernel
theorem dX11_matchOf_72 : decode cX11_matchOf 72 = .ok (.sipush 10000, 3) := by decide +kernel
theorem dX11_matchOf_75 : decode cX11_matchOf 75 = .ok (.irem, 1) := by decide +kernel
theorem dX11_matchOf_76 : decode cX11_matchOf 76 = .ok (.invokestatic 193, 3) := by decide +kernel
theorem dX11_matchOf_79 : decode cX11_matchOf 79 = .ok (.iload_n 3, 1) := by decide +kernel
theorem dX11_matchOf_80 : decode cX11_matchOf 80 = .ok (.if_icmp .ne 6, 3) := by decide +kernel
theorem dX11_matchOf_83 : decode cX11_matchOf 83 = .ok (.iload 6, 2) := by decide +kernel
theorem dX11_matchOf_85 : decode cX11_matchOf 85 = .ok (.ireturn, 1) := by decide +kernel
theorem dX11_matchOf_86 : decode cX11_matchOf 86 = .ok (.iinc 6 1, 3) := by decide +kernel
theorem dX11_matchOf_89 : decode cX11_matchOf 89 = .ok (.goto (-46), 3) := by decide +kernel
theorem dX11_matchOf_92 : decode cX11_matchOf 92 = .ok (.iconst (-1), 1) := by decide +kernel
theorem dX11_matchOf_93 : decode cX11_matchOf 93 = .ok (.ireturn, 1) := by decide +kernel
theorem dX11_isAwaited_0 : decode cX11_isAwaited 0 = .ok (.aload_n 0, 1) := by decide +kernel
theorem dX11_isAwaited_1 : decode cX11_isAwaited 1 = .ok (.getfield 34, 3) := by decide +kernel
theorem dX11_isAwaited_4 : decode cX11_isAwaited 4 = .ok (.bipush 30, 2) := by decide +kernel
theorem dX11_isAwaited_6 : decode cX11_isAwaited 6 = .ok (.iload_n 1, 1) := by decide +kernel
theorem dX11_isAwaited_7 : decode cX11_isAwaited 7 = .ok (.iadd, 1) := by decide +kernel
theorem dX11_isAwaited_8 : decode cX11_isAwaited 8 = .ok (.iaload, 1) := by decide +kernel
theorem dX11_isAwaited_9 : decode cX11_isAwaited 9 = .ok (.istore_n 3, 1) := by decide +kernel
theorem dX11_isAwaited_10 : decode cX11_isAwaited 10 = .ok (.iload_n 3, 1) := by decide +kernel
theorem dX11_isAwaited_11 : decode cX11_isAwaited 11 = .ok (.iconst (-1), 1) := by decide +kernel
theorem dX11_isAwaited_12 : decode cX11_isAwaited 12 = .ok (.if_icmp .eq 29, 3) := by decide +kernel
theorem dX11_isAwaited_15 : decode cX11_isAwaited 15 = .ok (.aload_n 0, 1) := by decide +kernel
theorem dX11_isAwaited_16 : decode cX11_isAwaited 16 = .ok (.getfield 28, 3) := by decide +kernel
theorem dX11_isAwaited_19 : decode cX11_isAwaited 19 = .ok (.iload_n 3, 1) := by decide +kernel
theorem dX11_isAwaited_20 : decode cX11_isAwaited 20 = .ok (.iaload, 1) := by decide +kernel
theorem dX11_isAwaited_21 : decode cX11_isAwaited 21 = .ok (.aload_n 0, 1) := by decide +kernel
theorem dX11_isAwaited_22 : decode cX11_isAwaited 22 = .ok (.getfield 34, 3) := by decide +kernel
theorem dX11_isAwaited_25 : decode cX11_isAwaited 25 = .ok (.bipush 34, 2) := by decide +kernel
theorem dX11_isAwaited_27 : decode cX11_isAwaited 27 = .ok (.iload_n 1, 1) := by decide +kernel
theorem dX11_isAwaited_28 : decode cX11_isAwaited 28 = .ok (.iadd, 1) := by decide +kernel
theorem dX11_isAwaited_29 : decode cX11_isAwaited 29 = .ok (.iaload, 1) := by decide +kernel
theorem dX11_isAwaited_30 : decode cX11_isAwaited 30 = .ok (.invokestatic 193, 3) := by decide +kernel
theorem dX11_isAwaited_33 : decode cX11_isAwaited 33 = .ok (.iload_n 2, 1) := by decide +kernel
theorem dX11_isAwaited_34 : decode cX11_isAwaited 34 = .ok (.if_icmp .ne 7, 3) := by decide +kernel
theorem dX11_isAwaited_37 : decode cX11_isAwaited 37 = .ok (.iconst 1, 1) := by decide +kernel
theorem dX11_isAwaited_38 : decode cX11_isAwaited 38 = .ok (.goto 4, 3) := by decide +kernel
theorem dX11_isAwaited_41 : decode cX11_isAwaited 41 = .ok (.iconst 0, 1) := by decide +kernel
theorem dX11_isAwaited_42 : decode cX11_isAwaited 42 = .ok (.ireturn, 1) := by decide +kernel
theorem dX11_hears_0 : decode cX11_hears 0 = .ok (.aload_n 0, 1) := by decide +kernel
theorem dX11_hears_1 : decode cX11_hears 1 = .ok (.iload_n 1, 1) := by decide +kernel
theorem dX11_hears_2 : decode cX11_hears 2 = .ok (.iload_n 2, 1) := by decide +kernel
theorem dX11_hears_3 : decode cX11_hears 3 = .ok (.invokevirtual 196, 3) := by decide +kernel
theorem dX11_hears_6 : decode cX11_hears 6 = .ok (.ifCond .eq 28, 3) := by decide +kernel
theorem dX11_hears_9 : decode cX11_hears 9 = .ok (.aload_n 0, 1) := by decide +kernel
theorem dX11_hears_10 : decode cX11_hears 10 = .ok (.iload_n 1, 1) := by decide +kernel
theorem dX11_hears_11 : decode cX11_hears 11 = .ok (.aload_n 0, 1) := by decide +kernel
theorem dX11_hears_12 : decode cX11_hears 12 = .ok (.getfield 34, 3) := by decide +kernel
theorem dX11_hears_15 : decode cX11_hears 15 = .ok (.bipush 30, 2) := by decide +kernel
theorem dX11_hears_17 : decode cX11_hears 17 = .ok (.iload_n 1, 1) := by decide +kernel
theorem dX11_hears_18 : decode cX11_hears 18 = .ok (.iadd, 1) := by decide +kernel
theorem dX11_hears_19 : decode cX11_hears 19 = .ok (.iaload, 1) := by decide +kernel
theorem dX11_hears_20 : decode cX11_hears 20 = .ok (.aload_n 0, 1) := by decide +kernel
theorem dX11_hears_21 : decode cX11_hears 21 = .ok (.getfield 34, 3) := by decide +kernel
theorem dX11_hears_24 : decode cX11_hears 24 = .ok (.bipush 34, 2) := by decide +kernel
theorem dX11_hears_26 : decode cX11_hears 26 = .ok (.iload_n 1, 1) := by decide +kernel
theorem dX11_hears_27 : decode cX11_hears 27 = .ok (.iadd, 1) := by decide +kernel
theorem dX11_hears_28 : decode cX11_hears 28 = .ok (.iaload, 1) := by decide +kernel
theorem dX11_hears_29 : decode cX11_hears 29 = .ok (.invokevirtual 200, 3) := by decide +kernel
theorem dX11_hears_32 : decode cX11_hears 32 = .ok (.iconst 1, 1) := by decide +kernel
theorem dX11_hears_33 : decode cX11_hears 33 = .ok (.ireturn, 1) := by decide +kernel
theorem dX11_hears_34 : decode cX11_hears 34 = .ok (.iconst 0, 1) := by decide +kernel
theorem dX11_hears_35 : decode cX11_hears 35 = .ok (.istore_n 3, 1) := by decide +kernel
theorem dX11_hears_36 : decode cX11_hears 36 = .ok (.iconst (-1), 1) := by decide +kernel
theorem dX11_hears_37 : decode cX11_hears 37 = .ok (.istore 4, 2) := by decide +kernel
theorem dX11_hears_39 : decode cX11_hears 39 = .ok (.iload_n 3, 1) := by decide +kernel
theorem dX11_hears_40 : decode cX11_hears 40 = .ok (.aload_n 0, 1) := by decide +kernel
theorem dX11_hears_41 : decode cX11_hears 41 = .ok (.getfield 102, 3) := by decide +kernel
theorem dX11_hears_44 : decode cX11_hears 44 = .ok (.if_icmp .ge 33, 3) := by decide +kernel
theorem dX11_hears_47 : decode cX11_hears 47 = .ok (.iload 4, 2) := by decide +kernel
theorem dX11_hears_49 : decode cX11_hears 49 = .ok (.ifCond .ge 28, 3) := by decide +kernel
theorem dX11_hears_52 : decode cX11_hears 52 = .ok (.aload_n 0, 1) := by decide +kernel
theorem dX11_hears_53 : decode cX11_hears 53 = .ok (.iload_n 1, 1) := by decide +kernel
theorem dX11_hears_54 : decode cX11_hears 54 = .ok (.iload_n 3, 1) := by decide +kernel
theorem dX11_hears_55 : decode cX11_hears 55 = .ok (.iload_n 2, 1) := by decide +kernel
theorem dX11_hears_56 : decode cX11_hears 56 = .ok (.invokevirtual 204, 3) := by decide +kernel
theorem dX11_hears_59 : decode cX11_hears 59 = .ok (.istore 4, 2) := by decide +kernel
theorem dX11_hears_61 : decode cX11_hears 61 = .ok (.iload_n 3, 1) := by decide +kernel
theorem dX11_hears_62 : decode cX11_hears 62 = .ok (.iload 4, 2) := by decide +kernel
theorem dX11_hears_64 : decode cX11_hears 64 = .ok (.ifCond .ge 7, 3) := by decide +kernel
theorem dX11_hears_67 : decode cX11_hears 67 = .ok (.iconst 1, 1) := by decide +kernel
theorem dX11_hears_68 : decode cX11_hears 68 = .ok (.goto 4, 3) := by decide +kernel
theorem dX11_hears_71 : decode cX11_hears 71 = .ok (.iconst 0, 1) := by decide +kernel
theorem dX11_hears_72 : decode cX11_hears 72 = .ok (.iadd, 1) := by decide +kernel
theorem dX11_hears_73 : decode cX11_hears 73 = .ok (.istore_n 3, 1) := by decide +kernel
theorem dX11_hears_74 : decode cX11_hears 74 = .ok (.goto (-35), 3) := by decide +kernel
theorem dX11_hears_77 : decode cX11_hears 77 = .ok (.iload 4, 2) := by decide +kernel
theorem dX11_hears_79 : decode cX11_hears 79 = .ok (.ifCond .ge 5, 3) := by decide +kernel
theorem dX11_hears_82 : decode cX11_hears 82 = .ok (.iconst 0, 1) := by decide +kernel
theorem dX11_hears_83 : decode cX11_hears 83 = .ok (.ireturn, 1) := by decide +kernel
theorem dX11_hears_84 : decode cX11_hears 84 = .ok (.aload_n 0, 1) := by decide +kernel
theorem dX11_hears_85 : decode cX11_hears 85 = .ok (.getfield 34, 3) := by decide +kernel
theorem dX11_hears_88 : decode cX11_hears 88 = .ok (.bipush 38, 2) := by decide +kernel
theorem dX11_hears_90 : decode cX11_hears 90 = .ok (.iconst 5, 1) := by decide +kernel
theorem dX11_hears_91 : decode cX11_hears 91 = .ok (.iload_n 1, 1) := by decide +kernel
theorem dX11_hears_92 : decode cX11_hears 92 = .ok (.imul, 1) := by decide +kernel
theorem dX11_hears_93 : decode cX11_hears 93 = .ok (.iadd, 1) := by decide +kernel
theorem dX11_hears_94 : decode cX11_hears 94 = .ok (.iload_n 3, 1) := by decide +kernel
theorem dX11_hears_95 : decode cX11_hears 95 = .ok (.iadd, 1) := by decide +kernel
theorem dX11_hears_96 : decode cX11_hears 96 = .ok (.iaload, 1) := by decide +kernel
theorem dX11_hears_97 : decode cX11_hears 97 = .ok (.iload 4, 2) := by decide +kernel
theorem dX11_hears_99 : decode cX11_hears 99 = .ok (.iadd, 1) := by decide +kernel
theorem dX11_hears_100 : decode cX11_hears 100 = .ok (.sipush 10000, 3) := by decide +kernel
theorem dX11_hears_103 : decode cX11_hears 103 = .ok (.irem, 1) := by decide +kernel
theorem dX11_hears_104 : decode cX11_hears 104 = .ok (.istore 5, 2) := by decide +kernel
theorem dX11_hears_106 : decode cX11_hears 106 = .ok (.aload_n 0, 1) := by decide +kernel
theorem dX11_hears_107 : decode cX11_hears 107 = .ok (.getfield 7, 3) := by decide +kernel
theorem dX11_hears_110 : decode cX11_hears 110 = .ok (.iload_n 1, 1) := by decide +kernel
theorem dX11_hears_111 : decode cX11_hears 111 = .ok (.iaload, 1) := by decide +kernel
theorem dX11_hears_112 : decode cX11_hears 112 = .ok (.iconst 3, 1) := by decide +kernel
theorem dX11_hears_113 : decode cX11_hears 113 = .ok (.if_icmp .ne 13, 3) := by decide +kernel
theorem dX11_hears_116 : decode cX11_hears 116 = .ok (.iload 4, 2) := by decide +kernel
theorem dX11_hears_118 : decode cX11_hears 118 = .ok (.iconst 4, 1) := by decide +kernel
theorem dX11_hears_119 : decode cX11_hears 119 = .ok (.if_icmp .le 7, 3) := by decide +kernel
theorem dX11_hears_122 : decode cX11_hears 122 = .ok (.iconst 1, 1) := by decide +kernel
theorem dX11_hears_123 : decode cX11_hears 123 = .ok (.goto 4, 3) := by decide +kernel
theorem dX11_hears_126 : decode cX11_hears 126 = .ok (.iconst 0, 1) := by decide +kernel
theorem dX11_hears_127 : decode cX11_hears 127 = .ok (.istore 6, 2) := by decide +kernel
theorem dX11_hears_129 : decode cX11_hears 129 = .ok (.iload 6, 2) := by decide +kernel
theorem dX11_hears_131 : decode cX11_hears 131 = .ok (.ifCond .eq 33, 3) := by decide +kernel
theorem dX11_hears_134 : decode cX11_hears 134 = .ok (.aload_n 0, 1) := by decide +kernel
theorem dX11_hears_135 : decode cX11_hears 135 = .ok (.getfield 34, 3) := by decide +kernel
theorem dX11_hears_138 : decode cX11_hears 138 = .ok (.bipush 30, 2) := by decide +kernel
theorem dX11_hears_140 : decode cX11_hears 140 = .ok (.iload_n 1, 1) := by decide +kernel
theorem dX11_hears_141 : decode cX11_hears 141 = .ok (.iadd, 1) := by decide +kernel
theorem dX11_hears_142 : decode cX11_hears 142 = .ok (.iload_n 3, 1) := by decide +kernel
theorem dX11_hears_143 : decode cX11_hears 143 = .ok (.iastore, 1) := by decide +kernel
theorem dX11_hears_144 : decode cX11_hears 144 = .ok (.aload_n 0, 1) := by decide +kernel
theorem dX11_hears_145 : decode cX11_hears 145 = .ok (.getfield 34, 3) := by decide +kernel
theorem dX11_hears_148 : decode cX11_hears 148 = .ok (.bipush 34, 2) := by decide +kernel
theorem dX11_hears_150 : decode cX11_hears 150 = .ok (.iload_n 1, 1) := by decide +kernel
theorem dX11_hears_151 : decode cX11_hears 151 = .ok (.iadd, 1) := by decide +kernel
theorem dX11_hears_152 : decode cX11_hears 152 = .ok (.iload 5, 2) := by decide +kernel
theorem dX11_hears_154 : decode cX11_hears 154 = .ok (.iconst 1, 1) := by decide +kernel
theorem dX11_hears_155 : decode cX11_hears 155 = .ok (.iadd, 1) := by decide +kernel
theorem dX11_hears_156 : decode cX11_hears 156 = .ok (.sipush 10000, 3) := by decide +kernel
theorem dX11_hears_159 : decode cX11_hears 159 = .ok (.irem, 1) := by decide +kernel
theorem dX11_hears_160 : decode cX11_hears 160 = .ok (.iastore, 1) := by decide +kernel
theorem dX11_hears_161 : decode cX11_hears 161 = .ok (.goto 11, 3) := by decide +kernel
theorem dX11_hears_164 : decode cX11_hears 164 = .ok (.aload_n 0, 1) := by decide +kernel
theorem dX11_hears_165 : decode cX11_hears 165 = .ok (.iload_n 1, 1) := by decide +kernel
theorem dX11_hears_166 : decode cX11_hears 166 = .ok (.iload_n 3, 1) := by decide +kernel
theorem dX11_hears_167 : decode cX11_hears 167 = .ok (.iload 5, 2) := by decide +kernel
theorem dX11_hears_169 : decode cX11_hears 169 = .ok (.invokevirtual 200, 3) := by decide +kernel
theorem dX11_hears_172 : decode cX11_hears 172 = .ok (.iload 6, 2) := by decide +kernel
theorem dX11_hears_174 : decode cX11_hears 174 = .ok (.ifCond .ne 7, 3) := by decide +kernel
theorem dX11_hears_177 : decode cX11_hears 177 = .ok (.iconst 1, 1) := by decide +kernel
theorem dX11_hears_178 : decode cX11_hears 178 = .ok (.goto 4, 3) := by decide +kernel
theorem dX11_hears_181 : decode cX11_hears 181 = .ok (.iconst 0, 1) := by decide +kernel
theorem dX11_hears_182 : decode cX11_hears 182 = .ok (.ireturn, 1) := by decide +kernel
theorem dX11_far_0 : decode cX11_far 0 = .ok (.iload_n 0, 1) := by decide +kernel
theorem dX11_far_1 : decode cX11_far 1 = .ok (.iload_n 1, 1) := by decide +kernel
theorem dX11_far_2 : decode cX11_far 2 = .ok (.if_icmp .le 9, 3) := by decide +kernel
theorem dX11_far_5 : decode cX11_far 5 = .ok (.iload_n 0, 1) := by decide +kernel
theorem dX11_far_6 : decode cX11_far 6 = .ok (.iload_n 1, 1) := by decide +kernel
theorem dX11_far_7 : decode cX11_far 7 = .ok (.isub, 1) := by decide +kernel
theorem dX11_far_8 : decode cX11_far 8 = .ok (.goto 6, 3) := by decide +kernel
theorem dX11_far_11 : decode cX11_far 11 = .ok (.iload_n 1, 1) := by decide +kernel
theorem dX11_far_12 : decode cX11_far 12 = .ok (.iload_n 0, 1) := by decide +kernel
theorem dX11_far_13 : decode cX11_far 13 = .ok (.isub, 1) := by decide +kernel
theorem dX11_far_14 : decode cX11_far 14 = .ok (.ireturn, 1) := by decide +kernel
theorem dX11_sendFrom_0 : decode cX11_sendFrom 0 = .ok (.iconst 0, 1) := by decide +kernel
theorem dX11_sendFrom_1 : decode cX11_sendFrom 1 = .ok (.istore 4, 2) := by decide +kernel
theorem dX11_sendFrom_3 : decode cX11_sendFrom 3 = .ok (.iconst 0, 1) := by decide +kernel
theorem dX11_sendFrom_4 : decode cX11_sendFrom 4 = .ok (.istore 5, 2) := by decide +kernel
theorem dX11_sendFrom_6 : decode cX11_sendFrom 6 = .ok (.iload 5, 2) := by decide +kernel
theorem dX11_sendFrom_8 : decode cX11_sendFrom 8 = .ok (.aload_n 0, 1) := by decide +kernel
theorem dX11_sendFrom_9 : decode cX11_sendFrom 9 = .ok (.getfield 99, 3) := by decide +kernel
theorem dX11_sendFrom_12 : decode cX11_sendFrom 12 = .ok (.if_icmp .ge 70, 3) := by decide +kernel
theorem dX11_sendFrom_15 : decode cX11_sendFrom 15 = .ok (.aload_n 0, 1) := by decide +kernel
theorem dX11_sendFrom_16 : decode cX11_sendFrom 16 = .ok (.getfield 34, 3) := by decide +kernel
theorem dX11_sendFrom_19 : decode cX11_sendFrom 19 = .ok (.bipush 25, 2) := by decide +kernel
theorem dX11_sendFrom_21 : decode cX11_sendFrom 21 = .ok (.iaload, 1) := by decide +kernel
theorem dX11_sendFrom_22 : decode cX11_sendFrom 22 = .ok (.iload 5, 2) := by decide +kernel
theorem dX11_sendFrom_24 : decode cX11_sendFrom 24 = .ok (.invokestatic 208, 3) := by decide +kernel
theorem dX11_sendFrom_27 : decode cX11_sendFrom 27 = .ok (.ifCond .ne 22, 3) := by decide +kernel
theorem dX11_sendFrom_30 : decode cX11_sendFrom 30 = .ok (.iload_n 1, 1) := by decide +kernel
theorem dX11_sendFrom_31 : decode cX11_sendFrom 31 = .ok (.aload_n 0, 1) := by decide +kernel
theorem dX11_sendFrom_32 : decode cX11_sendFrom 32 = .ok (.getfield 13, 3) := by decide +kernel
theorem dX11_sendFrom_35 : decode cX11_sendFrom 35 = .ok (.iload 5, 2) := by decide +kernel
theorem dX11_sendFrom_37 : decode cX11_sendFrom 37 = .ok (.iaload, 1) := by decide +kernel
theorem dX11_sendFrom_38 : decode cX11_sendFrom 38 = .ok (.invokestatic 211, 3) := by decide +kernel
theorem dX11_sendFrom_41 : decode cX11_sendFrom 41 = .ok (.iload_n 2, 1) := by decide +kernel
theorem dX11_sendFrom_42 : decode cX11_sendFrom 42 = .ok (.if_icmp .gt 7, 3) := by decide +kernel
theorem dX11_sendFrom_45 : decode cX11_sendFrom 45 = .ok (.iconst 1, 1) := by decide +kernel
theorem dX11_sendFrom_46 : decode cX11_sendFrom 46 = .ok (.goto 4, 3) := by decide +kernel
theorem dX11_sendFrom_49 : decode cX11_sendFrom 49 = .ok (.iconst 0, 1) := by decide +kernel
theorem dX11_sendFrom_50 : decode cX11_sendFrom 50 = .ok (.istore 6, 2) := by decide +kernel
theorem dX11_sendFrom_52 : decode cX11_sendFrom 52 = .ok (.iload 6, 2) := by decide +kernel
theorem dX11_sendFrom_54 : decode cX11_sendFrom 54 = .ok (.ifCond .eq 22, 3) := by decide +kernel
theorem dX11_sendFrom_57 : decode cX11_sendFrom 57 = .ok (.aload_n 0, 1) := by decide +kernel
theorem dX11_sendFrom_58 : decode cX11_sendFrom 58 = .ok (.iload 5, 2) := by decide +kernel
theorem dX11_sendFrom_60 : decode cX11_sendFrom 60 = .ok (.iload_n 3, 1) := by decide +kernel
theorem dX11_sendFrom_61 : decode cX11_sendFrom 61 = .ok (.invokevirtual 214, 3) := by decide +kernel
theorem dX11_sendFrom_64 : decode cX11_sendFrom 64 = .ok (.ifCond .eq 12, 3) := by decide +kernel
theorem dX11_sendFrom_67 : decode cX11_sendFrom 67 = .ok (.iload 4, 2) := by decide +kernel
theorem dX11_sendFrom_69 : decode cX11_sendFrom 69 = .ok (.iconst 1, 1) := by decide +kernel
theorem dX11_sendFrom_70 : decode cX11_sendFrom 70 = .ok (.iload 5, 2) := by decide +kernel
theorem dX11_sendFrom_72 : decode cX11_sendFrom 72 = .ok (.ishl, 1) := by decide +kernel
theorem dX11_sendFrom_73 : decode cX11_sendFrom 73 = .ok (.ior, 1) := by decide +kernel
theorem dX11_sendFrom_74 : decode cX11_sendFrom 74 = .ok (.istore 4, 2) := by decide +kernel
theorem dX11_sendFrom_76 : decode cX11_sendFrom 76 = .ok (.iinc 5 1, 3) := by decide +kernel
theorem dX11_sendFrom_79 : decode cX11_sendFrom 79 = .ok (.goto (-73), 3) := by decide +kernel
theorem dX11_sendFrom_82 : decode cX11_sendFrom 82 = .ok (.iload 4, 2) := by decide +kernel
theorem dX11_sendFrom_84 : decode cX11_sendFrom 84 = .ok (.ireturn, 1) := by decide +kernel
theorem dX11_keepCode_0 : decode cX11_keepCode 0 = .ok (.bipush 7, 2) := by decide +kernel
theorem dX11_keepCode_2 : decode cX11_keepCode 2 = .ok (.istore_n 2, 1) := by decide +kernel
theorem dX11_keepCode_3 : decode cX11_keepCode 3 = .ok (.iload_n 2, 1) := by decide +kernel
theorem dX11_keepCode_4 : decode cX11_keepCode 4 = .ok (.ifCond .le 29, 3) := by decide +kernel
theorem dX11_keepCode_7 : decode cX11_keepCode 7 = .ok (.aload_n 0, 1) := by decide +kernel
theorem dX11_keepCode_8 : decode cX11_keepCode 8 = .ok (.getfield 34, 3) := by decide +kernel
theorem dX11_keepCode_11 : decode cX11_keepCode 11 = .ok (.bipush 17, 2) := by decide +kernel
theorem dX11_keepCode_13 : decode cX11_keepCode 13 = .ok (.iload_n 2, 1) := by decide +kernel
theorem dX11_keepCode_14 : decode cX11_keepCode 14 = .ok (.iadd, 1) := by decide +kernel
theorem dX11_keepCode_15 : decode cX11_keepCode 15 = .ok (.aload_n 0, 1) := by decide +kernel
theorem dX11_keepCode_16 : decode cX11_keepCode 16 = .ok (.getfield 34, 3) := by decide +kernel
