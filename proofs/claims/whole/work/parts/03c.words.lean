theorem ik_0 : ∀ w ∈ u_ws RX0 TX0 3, w ∈ TB := by decide +kernel
theorem ck_0 : CK 0 := ⟨RX0, TX0, 3, tyX0, rfl, rfl, ik_0, tyX0_ok, nmX0, rfl⟩
theorem ik_1 : ∀ w ∈ u_ws RX1 TX1 1, w ∈ TB := by decide +kernel
theorem ck_1 : CK 1 := ⟨RX1, TX1, 1, tyX1, rfl, rfl, ik_1, tyX1_ok, nmX1, rfl⟩
theorem ik_2 : ∀ w ∈ u_ws RX2 TX2 3, w ∈ TB := by decide +kernel
theorem ck_2 : CK 2 := ⟨RX2, TX2, 3, tyX2, rfl, rfl, ik_2, tyX2_ok, nmX2, rfl⟩
theorem ik_3 : ∀ w ∈ u_ws RX3 TX3 3, w ∈ TB := by decide +kernel
theorem ck_3 : CK 3 := ⟨RX3, TX3, 3, tyX3, rfl, rfl, ik_3, tyX3_ok, nmX3, rfl⟩
theorem ik_4 : ∀ w ∈ u_ws RX4 TX4 13, w ∈ TB := by decide +kernel
theorem ck_4 : CK 4 := ⟨RX4, TX4, 13, tyX4, rfl, rfl, ik_4, tyX4_ok, nmX4, rfl⟩
theorem ik_5 : ∀ w ∈ u_ws RX5 TX5 5, w ∈ TB := by decide +kernel
theorem ck_5 : CK 5 := ⟨RX5, TX5, 5, tyX5, rfl, rfl, ik_5, tyX5_ok, nmX5, rfl⟩
theorem ik_6 : ∀ w ∈ u_ws RX6 TX6 2, w ∈ TB := by decide +kernel
theorem ck_6 : CK 6 := ⟨RX6, TX6, 2, tyX6, rfl, rfl, ik_6, tyX6_ok, nmX6, rfl⟩
theorem ik_7 : ∀ w ∈ u_ws RX7 TX7 13, w ∈ TB := by decide +kernel
theorem ck_7 : CK 7 := ⟨RX7, TX7, 13, tyX7, rfl, rfl, ik_7, tyX7_ok, nmX7, rfl⟩
theorem ik_8 : ∀ w ∈ u_ws RX8 TX8 3, w ∈ TB := by decide +kernel
theorem ck_8 : CK 8 := ⟨RX8, TX8, 3, tyX8, rfl, rfl, ik_8, tyX8_ok, nmX8, rfl⟩
theorem ik_9 : ∀ w ∈ u_ws RX9 TX9 2, w ∈ TB := by decide +kernel
theorem ck_9 : CK 9 := ⟨RX9, TX9, 2, tyX9, rfl, rfl, ik_9, tyX9_ok, nmX9, rfl⟩
theorem ik_10 : ∀ w ∈ u_ws RX10 TX10 12, w ∈ TB := by decide +kernel
theorem ck_10 : CK 10 := ⟨RX10, TX10, 12, tyX10, rfl, rfl, ik_10, tyX10_ok, nmX10, rfl⟩
theorem ik_11 : ∀ w ∈ u_ws RX11 TX11 46, w ∈ TB := by decide +kernel
theorem ck_11 : CK 11 := ⟨RX11, TX11, 46, tyX11, rfl, rfl, ik_11, tyX11_ok, nmX11, rfl⟩
theorem fl_10_10 : FL RX10 10 10 0 := Or.inl (tb_of (i := 313) (by decide +kernel) rfl)
theorem fl_10_19 : FL RX10 19 10 1 := Or.inl (tb_of (i := 314) (by decide +kernel) rfl)
theorem fl_10_26 : FL RX10 26 10 2 := Or.inl (tb_of (i := 315) (by decide +kernel) rfl)
theorem fl_10_35 : FL RX10 35 10 3 := Or.inl (tb_of (i := 316) (by decide +kernel) rfl)
theorem fl_10_39 : FL RX10 39 10 4 := Or.inl (tb_of (i := 317) (by decide +kernel) rfl)
theorem fl_10_45 : FL RX10 45 10 5 := Or.inl (tb_of (i := 318) (by decide +kernel) rfl)
theorem fl_10_52 : FL RX10 52 10 6 := Or.inl (tb_of (i := 319) (by decide +kernel) rfl)
theorem fl_10_59 : FL RX10 59 10 7 := Or.inl (tb_of (i := 320) (by decide +kernel) rfl)
theorem fl_10_66 : FL RX10 66 10 8 := Or.inl (tb_of (i := 321) (by decide +kernel) rfl)
theorem fl_10_73 : FL RX10 73 10 9 := Or.inl (tb_of (i := 322) (by decide +kernel) rfl)
theorem fl_10_80 : FL RX10 80 10 10 := Or.inl (tb_of (i := 323) (by decide +kernel) rfl)
theorem fl_10_84 : FL RX10 84 10 11 := Or.inl (tb_of (i := 324) (by decide +kernel) rfl)
theorem fl_10_99 : FL RX10 99 9 1 := Or.inr ⟨"RollingCodes", nb_of (i := 32) (by decide +kernel) rfl⟩
theorem fl_10_108 : FL RX10 108 5 4 := Or.inr ⟨"RollingCodes", nb_of (i := 123) (by decide +kernel) rfl⟩
theorem fl_10_109 : FL RX10 109 5 3 := Or.inr ⟨"RollingCodes", nb_of (i := 121) (by decide +kernel) rfl⟩
theorem fl_10_112 : FL RX10 112 5 0 := Or.inr ⟨"RollingCodes", nb_of (i := 117) (by decide +kernel) rfl⟩
theorem fl_10_123 : FL RX10 123 4 4 := Or.inr ⟨"RollingCodes", nb_of (i := 65) (by decide +kernel) rfl⟩
theorem fl_10_126 : FL RX10 126 4 0 := Or.inr ⟨"RollingCodes", nb_of (i := 54) (by decide +kernel) rfl⟩
theorem fl_10_130 : FL RX10 130 4 3 := Or.inr ⟨"RollingCodes", nb_of (i := 62) (by decide +kernel) rfl⟩
theorem fl_10_133 : FL RX10 133 7 1 := Or.inr ⟨"RollingCodes", nb_of (i := 145) (by decide +kernel) rfl⟩
theorem fl_10_136 : FL RX10 136 7 2 := Or.inr ⟨"RollingCodes", nb_of (i := 147) (by decide +kernel) rfl⟩
theorem fl_10_139 : FL RX10 139 4 2 := Or.inr ⟨"RollingCodes", nb_of (i := 58) (by decide +kernel) rfl⟩
theorem fl_10_142 : FL RX10 142 7 4 := Or.inr ⟨"RollingCodes", nb_of (i := 152) (by decide +kernel) rfl⟩
theorem fl_10_145 : FL RX10 145 7 3 := Or.inr ⟨"RollingCodes", nb_of (i := 149) (by decide +kernel) rfl⟩
theorem fl_10_152 : FL RX10 152 8 2 := Or.inr ⟨"RollingCodes", nb_of (i := 260) (by decide +kernel) rfl⟩
theorem fl_10_155 : FL RX10 155 0 2 := Or.inr ⟨"RollingCodes", nb_of (i := 277) (by decide +kernel) rfl⟩
theorem fl_10_156 : FL RX10 156 3 2 := Or.inr ⟨"RollingCodes", nb_of (i := 208) (by decide +kernel) rfl⟩
theorem fl_10_161 : FL RX10 161 4 8 := Or.inr ⟨"RollingCodes", nb_of (i := 77) (by decide +kernel) rfl⟩
theorem fl_10_165 : FL RX10 165 7 6 := Or.inr ⟨"RollingCodes", nb_of (i := 156) (by decide +kernel) rfl⟩
theorem fl_10_168 : FL RX10 168 4 10 := Or.inr ⟨"RollingCodes", nb_of (i := 82) (by decide +kernel) rfl⟩
theorem fl_10_171 : FL RX10 171 4 11 := Or.inr ⟨"RollingCodes", nb_of (i := 85) (by decide +kernel) rfl⟩
theorem fl_10_174 : FL RX10 174 7 7 := Or.inr ⟨"RollingCodes", nb_of (i := 158) (by decide +kernel) rfl⟩
theorem fl_10_177 : FL RX10 177 7 8 := Or.inr ⟨"RollingCodes", nb_of (i := 160) (by decide +kernel) rfl⟩
theorem fl_10_187 : FL RX10 187 4 5 := Or.inr ⟨"RollingCodes", nb_of (i := 69) (by decide +kernel) rfl⟩
theorem fl_10_190 : FL RX10 190 4 6 := Or.inr ⟨"RollingCodes", nb_of (i := 72) (by decide +kernel) rfl⟩
theorem fl_10_193 : FL RX10 193 4 7 := Or.inr ⟨"RollingCodes", nb_of (i := 75) (by decide +kernel) rfl⟩
theorem fl_10_196 : FL RX10 196 7 9 := Or.inr ⟨"RollingCodes", nb_of (i := 163) (by decide +kernel) rfl⟩
theorem fl_10_199 : FL RX10 199 7 10 := Or.inr ⟨"RollingCodes", nb_of (i := 165) (by decide +kernel) rfl⟩
theorem fl_10_202 : FL RX10 202 7 11 := Or.inr ⟨"RollingCodes", nb_of (i := 167) (by decide +kernel) rfl⟩
theorem fl_10_219 : FL RX10 219 7 5 := Or.inr ⟨"RollingCodes", nb_of (i := 154) (by decide +kernel) rfl⟩
theorem fl_10_276 : FL RX10 276 6 1 := Or.inr ⟨"RollingCodes", nb_of (i := 245) (by decide +kernel) rfl⟩
theorem fl_10_310 : FL RX10 310 1 0 := Or.inr ⟨"RollingCodes", nb_of (i := 293) (by decide +kernel) rfl⟩
theorem fl_0_9 : FL RX0 9 0 0 := Or.inl (tb_of (i := 274) (by decide +kernel) rfl)
theorem fl_0_15 : FL RX0 15 0 1 := Or.inl (tb_of (i := 275) (by decide +kernel) rfl)
theorem fl_0_18 : FL RX0 18 0 2 := Or.inl (tb_of (i := 276) (by decide +kernel) rfl)
theorem fl_0_22 : FL RX0 22 7 9 := Or.inr ⟨"RollingCodes", nb_of (i := 162) (by decide +kernel) rfl⟩
theorem fl_1_7 : FL RX1 7 1 0 := Or.inl (tb_of (i := 291) (by decide +kernel) rfl)
theorem fl_2_11 : FL RX2 11 2 0 := Or.inl (tb_of (i := 224) (by decide +kernel) rfl)
theorem fl_2_17 : FL RX2 17 2 1 := Or.inl (tb_of (i := 225) (by decide +kernel) rfl)
theorem fl_2_21 : FL RX2 21 2 2 := Or.inl (tb_of (i := 226) (by decide +kernel) rfl)
theorem fl_2_32 : FL RX2 32 1 0 := Or.inr ⟨"RollingCodes", nb_of (i := 292) (by decide +kernel) rfl⟩
theorem fl_3_11 : FL RX3 11 3 0 := Or.inl (tb_of (i := 205) (by decide +kernel) rfl)
theorem fl_3_20 : FL RX3 20 3 1 := Or.inl (tb_of (i := 206) (by decide +kernel) rfl)
theorem fl_3_28 : FL RX3 28 3 2 := Or.inl (tb_of (i := 207) (by decide +kernel) rfl)
theorem fl_4_9 : FL RX4 9 4 5 := Or.inl (tb_of (i := 68) (by decide +kernel) rfl)
theorem fl_4_15 : FL RX4 15 4 6 := Or.inl (tb_of (i := 71) (by decide +kernel) rfl)
theorem fl_4_18 : FL RX4 18 4 7 := Or.inl (tb_of (i := 74) (by decide +kernel) rfl)
theorem fl_4_21 : FL RX4 21 4 8 := Or.inl (tb_of (i := 76) (by decide +kernel) rfl)
theorem fl_4_24 : FL RX4 24 4 9 := Or.inl (tb_of (i := 79) (by decide +kernel) rfl)
theorem fl_4_27 : FL RX4 27 4 10 := Or.inl (tb_of (i := 81) (by decide +kernel) rfl)
theorem fl_4_30 : FL RX4 30 4 11 := Or.inl (tb_of (i := 84) (by decide +kernel) rfl)
theorem fl_4_33 : FL RX4 33 4 12 := Or.inl (tb_of (i := 87) (by decide +kernel) rfl)
theorem fl_4_36 : FL RX4 36 4 0 := Or.inl (tb_of (i := 52) (by decide +kernel) rfl)
theorem fl_4_40 : FL RX4 40 4 1 := Or.inl (tb_of (i := 55) (by decide +kernel) rfl)
theorem fl_4_44 : FL RX4 44 4 2 := Or.inl (tb_of (i := 57) (by decide +kernel) rfl)
theorem fl_4_47 : FL RX4 47 4 3 := Or.inl (tb_of (i := 60) (by decide +kernel) rfl)
theorem fl_4_50 : FL RX4 50 4 4 := Or.inl (tb_of (i := 64) (by decide +kernel) rfl)
theorem fl_5_12 : FL RX5 12 5 0 := Or.inl (tb_of (i := 116) (by decide +kernel) rfl)
theorem fl_5_18 : FL RX5 18 5 1 := Or.inl (tb_of (i := 118) (by decide +kernel) rfl)
theorem fl_5_25 : FL RX5 25 5 2 := Or.inl (tb_of (i := 119) (by decide +kernel) rfl)
theorem fl_5_29 : FL RX5 29 5 3 := Or.inl (tb_of (i := 120) (by decide +kernel) rfl)
theorem fl_5_32 : FL RX5 32 5 4 := Or.inl (tb_of (i := 122) (by decide +kernel) rfl)
theorem fl_5_39 : FL RX5 39 9 1 := Or.inr ⟨"RollingCodes", nb_of (i := 33) (by decide +kernel) rfl⟩
theorem fl_5_87 : FL RX5 87 4 0 := Or.inr ⟨"RollingCodes", nb_of (i := 53) (by decide +kernel) rfl⟩
theorem fl_5_91 : FL RX5 91 4 3 := Or.inr ⟨"RollingCodes", nb_of (i := 61) (by decide +kernel) rfl⟩
theorem fl_5_94 : FL RX5 94 4 4 := Or.inr ⟨"RollingCodes", nb_of (i := 66) (by decide +kernel) rfl⟩
theorem fl_6_11 : FL RX6 11 6 0 := Or.inl (tb_of (i := 243) (by decide +kernel) rfl)
theorem fl_6_17 : FL RX6 17 6 1 := Or.inl (tb_of (i := 244) (by decide +kernel) rfl)
theorem fl_6_36 : FL RX6 36 7 4 := Or.inr ⟨"RollingCodes", nb_of (i := 151) (by decide +kernel) rfl⟩
theorem fl_7_9 : FL RX7 9 7 5 := Or.inl (tb_of (i := 153) (by decide +kernel) rfl)
theorem fl_7_15 : FL RX7 15 7 6 := Or.inl (tb_of (i := 155) (by decide +kernel) rfl)
theorem fl_7_18 : FL RX7 18 7 7 := Or.inl (tb_of (i := 157) (by decide +kernel) rfl)
theorem fl_7_21 : FL RX7 21 7 8 := Or.inl (tb_of (i := 159) (by decide +kernel) rfl)
theorem fl_7_24 : FL RX7 24 7 9 := Or.inl (tb_of (i := 161) (by decide +kernel) rfl)
theorem fl_7_27 : FL RX7 27 7 10 := Or.inl (tb_of (i := 164) (by decide +kernel) rfl)
theorem fl_7_30 : FL RX7 30 7 11 := Or.inl (tb_of (i := 166) (by decide +kernel) rfl)
theorem fl_7_33 : FL RX7 33 7 12 := Or.inl (tb_of (i := 168) (by decide +kernel) rfl)
theorem fl_7_36 : FL RX7 36 7 0 := Or.inl (tb_of (i := 143) (by decide +kernel) rfl)
theorem fl_7_40 : FL RX7 40 7 1 := Or.inl (tb_of (i := 144) (by decide +kernel) rfl)
theorem fl_7_44 : FL RX7 44 4 1 := Or.inr ⟨"RollingCodes", nb_of (i := 56) (by decide +kernel) rfl⟩
theorem fl_7_49 : FL RX7 49 7 2 := Or.inl (tb_of (i := 146) (by decide +kernel) rfl)
theorem fl_7_50 : FL RX7 50 7 3 := Or.inl (tb_of (i := 148) (by decide +kernel) rfl)
theorem fl_7_53 : FL RX7 53 7 4 := Or.inl (tb_of (i := 150) (by decide +kernel) rfl)
theorem fl_7_56 : FL RX7 56 4 9 := Or.inr ⟨"RollingCodes", nb_of (i := 80) (by decide +kernel) rfl⟩
theorem fl_7_59 : FL RX7 59 4 12 := Or.inr ⟨"RollingCodes", nb_of (i := 88) (by decide +kernel) rfl⟩
theorem fl_7_76 : FL RX7 76 4 3 := Or.inr ⟨"RollingCodes", nb_of (i := 63) (by decide +kernel) rfl⟩
theorem fl_7_79 : FL RX7 79 4 11 := Or.inr ⟨"RollingCodes", nb_of (i := 86) (by decide +kernel) rfl⟩
theorem fl_7_110 : FL RX7 110 4 2 := Or.inr ⟨"RollingCodes", nb_of (i := 59) (by decide +kernel) rfl⟩
theorem fl_7_117 : FL RX7 117 4 8 := Or.inr ⟨"RollingCodes", nb_of (i := 78) (by decide +kernel) rfl⟩
theorem fl_7_120 : FL RX7 120 4 10 := Or.inr ⟨"RollingCodes", nb_of (i := 83) (by decide +kernel) rfl⟩
theorem fl_7_130 : FL RX7 130 4 6 := Or.inr ⟨"RollingCodes", nb_of (i := 73) (by decide +kernel) rfl⟩
theorem fl_7_150 : FL RX7 150 4 4 := Or.inr ⟨"RollingCodes", nb_of (i := 67) (by decide +kernel) rfl⟩
theorem fl_7_159 : FL RX7 159 4 5 := Or.inr ⟨"RollingCodes", nb_of (i := 70) (by decide +kernel) rfl⟩
theorem fl_8_9 : FL RX8 9 8 0 := Or.inl (tb_of (i := 257) (by decide +kernel) rfl)
theorem fl_8_15 : FL RX8 15 8 1 := Or.inl (tb_of (i := 258) (by decide +kernel) rfl)
theorem fl_8_19 : FL RX8 19 8 2 := Or.inl (tb_of (i := 259) (by decide +kernel) rfl)
theorem fl_9_9 : FL RX9 9 9 0 := Or.inl (tb_of (i := 30) (by decide +kernel) rfl)
theorem fl_9_15 : FL RX9 15 9 1 := Or.inl (tb_of (i := 31) (by decide +kernel) rfl)
theorem fl_11_7 : FL RX11 7 11 4 := Or.inl (tb_of (i := 850) (by decide +kernel) rfl)
theorem fl_11_13 : FL RX11 13 11 5 := Or.inl (tb_of (i := 851) (by decide +kernel) rfl)
theorem fl_11_16 : FL RX11 16 11 6 := Or.inl (tb_of (i := 852) (by decide +kernel) rfl)
theorem fl_11_19 : FL RX11 19 11 8 := Or.inl (tb_of (i := 854) (by decide +kernel) rfl)
theorem fl_11_22 : FL RX11 22 11 9 := Or.inl (tb_of (i := 855) (by decide +kernel) rfl)
theorem fl_11_25 : FL RX11 25 11 10 := Or.inl (tb_of (i := 856) (by decide +kernel) rfl)
theorem fl_11_28 : FL RX11 28 11 11 := Or.inl (tb_of (i := 857) (by decide +kernel) rfl)
theorem fl_11_31 : FL RX11 31 11 12 := Or.inl (tb_of (i := 858) (by decide +kernel) rfl)
theorem fl_11_34 : FL RX11 34 11 13 := Or.inl (tb_of (i := 859) (by decide +kernel) rfl)
theorem fl_11_37 : FL RX11 37 11 15 := Or.inl (tb_of (i := 861) (by decide +kernel) rfl)
theorem fl_11_40 : FL RX11 40 11 17 := Or.inl (tb_of (i := 863) (by decide +kernel) rfl)
theorem fl_11_44 : FL RX11 44 11 21 := Or.inl (tb_of (i := 867) (by decide +kernel) rfl)
theorem fl_11_47 : FL RX11 47 11 23 := Or.inl (tb_of (i := 869) (by decide +kernel) rfl)
theorem fl_11_50 : FL RX11 50 11 24 := Or.inl (tb_of (i := 870) (by decide +kernel) rfl)
theorem fl_11_53 : FL RX11 53 11 25 := Or.inl (tb_of (i := 871) (by decide +kernel) rfl)
theorem fl_11_56 : FL RX11 56 11 27 := Or.inl (tb_of (i := 873) (by decide +kernel) rfl)
theorem fl_11_59 : FL RX11 59 11 28 := Or.inl (tb_of (i := 874) (by decide +kernel) rfl)
theorem fl_11_62 : FL RX11 62 11 29 := Or.inl (tb_of (i := 875) (by decide +kernel) rfl)
theorem fl_11_65 : FL RX11 65 11 30 := Or.inl (tb_of (i := 876) (by decide +kernel) rfl)
theorem fl_11_68 : FL RX11 68 11 31 := Or.inl (tb_of (i := 877) (by decide +kernel) rfl)
theorem fl_11_71 : FL RX11 71 11 33 := Or.inl (tb_of (i := 879) (by decide +kernel) rfl)
theorem fl_11_74 : FL RX11 74 11 34 := Or.inl (tb_of (i := 880) (by decide +kernel) rfl)
theorem fl_11_77 : FL RX11 77 11 38 := Or.inl (tb_of (i := 884) (by decide +kernel) rfl)
theorem fl_11_80 : FL RX11 80 11 39 := Or.inl (tb_of (i := 885) (by decide +kernel) rfl)
theorem fl_11_83 : FL RX11 83 11 40 := Or.inl (tb_of (i := 886) (by decide +kernel) rfl)
theorem fl_11_86 : FL RX11 86 11 42 := Or.inl (tb_of (i := 888) (by decide +kernel) rfl)
theorem fl_11_89 : FL RX11 89 11 43 := Or.inl (tb_of (i := 889) (by decide +kernel) rfl)
theorem fl_11_92 : FL RX11 92 11 44 := Or.inl (tb_of (i := 890) (by decide +kernel) rfl)
theorem fl_11_95 : FL RX11 95 11 45 := Or.inl (tb_of (i := 891) (by decide +kernel) rfl)
theorem fl_11_99 : FL RX11 99 11 3 := Or.inl (tb_of (i := 849) (by decide +kernel) rfl)
theorem fl_11_102 : FL RX11 102 11 7 := Or.inl (tb_of (i := 853) (by decide +kernel) rfl)
theorem fl_11_112 : FL RX11 112 11 16 := Or.inl (tb_of (i := 862) (by decide +kernel) rfl)
theorem fl_11_116 : FL RX11 116 11 18 := Or.inl (tb_of (i := 864) (by decide +kernel) rfl)
theorem fl_11_131 : FL RX11 131 11 19 := Or.inl (tb_of (i := 865) (by decide +kernel) rfl)
theorem fl_11_137 : FL RX11 137 11 20 := Or.inl (tb_of (i := 866) (by decide +kernel) rfl)
theorem fl_11_145 : FL RX11 145 11 22 := Or.inl (tb_of (i := 868) (by decide +kernel) rfl)
theorem fl_11_148 : FL RX11 148 11 26 := Or.inl (tb_of (i := 872) (by decide +kernel) rfl)
theorem fl_11_160 : FL RX11 160 11 1 := Or.inl (tb_of (i := 847) (by decide +kernel) rfl)
theorem fl_11_163 : FL RX11 163 11 0 := Or.inl (tb_of (i := 846) (by decide +kernel) rfl)
theorem fl_11_166 : FL RX11 166 11 2 := Or.inl (tb_of (i := 848) (by decide +kernel) rfl)
theorem fl_11_182 : FL RX11 182 11 37 := Or.inl (tb_of (i := 883) (by decide +kernel) rfl)
theorem fl_11_185 : FL RX11 185 11 41 := Or.inl (tb_of (i := 887) (by decide +kernel) rfl)
theorem fl_11_188 : FL RX11 188 11 32 := Or.inl (tb_of (i := 878) (by decide +kernel) rfl)
theorem fl_11_257 : FL RX11 257 11 14 := Or.inl (tb_of (i := 860) (by decide +kernel) rfl)
theorem fl_11_298 : FL RX11 298 11 35 := Or.inl (tb_of (i := 881) (by decide +kernel) rfl)
theorem fl_11_301 : FL RX11 301 11 36 := Or.inl (tb_of (i := 882) (by decide +kernel) rfl)
theorem kc_10_94 : Cond.constant RX10 94 (-1000000002) ∈ TB := tb_of (i := 354) (by decide +kernel) rfl
theorem kc_10_102 : Cond.constant RX10 102 (-1000000004) ∈ TB := tb_of (i := 359) (by decide +kernel) rfl
theorem kc_10_160 : Cond.constant RX10 160 (-1000000001) ∈ TB := tb_of (i := 478) (by decide +kernel) rfl
theorem kc_10_225 : Cond.constant RX10 225 (-1000000003) ∈ TB := tb_of (i := 614) (by decide +kernel) rfl
theorem kc_10_288 : Cond.constantLong RX10 288 (1000000000) ∈ TB := tb_of (i := 750) (by decide +kernel) rfl
theorem kc_10_290 : Cond.constantLong RX10 290 (100) ∈ TB := tb_of (i := 751) (by decide +kernel) rfl
theorem kc_1_13 : Cond.constantLong RX1 13 (1103515245) ∈ TB := tb_of (i := 670) (by decide +kernel) rfl
theorem kc_1_15 : Cond.constantLong RX1 15 (12345) ∈ TB := tb_of (i := 671) (by decide +kernel) rfl
theorem kc_1_17 : Cond.constantLong RX1 17 (2147483647) ∈ TB := tb_of (i := 672) (by decide +kernel) rfl
theorem kc_1_19 : Cond.constant RX1 19 (65536) ∈ TB := tb_of (i := 673) (by decide +kernel) rfl
theorem kc_11_109 : Cond.constantLong RX11 109 (255) ∈ TB := tb_of (i := 989) (by decide +kernel) rfl
theorem kc_11_111 : Cond.constant RX11 111 (-1000000002) ∈ TB := tb_of (i := 993) (by decide +kernel) rfl
theorem kc_11_115 : Cond.constant RX11 115 (-1000000004) ∈ TB := tb_of (i := 994) (by decide +kernel) rfl
theorem kc_11_123 : Cond.constantLong RX11 123 (48) ∈ TB := tb_of (i := 1023) (by decide +kernel) rfl
theorem kc_11_125 : Cond.constantLong RX11 125 (57) ∈ TB := tb_of (i := 1024) (by decide +kernel) rfl
theorem kc_11_191 : Cond.constantLong RX11 191 (9999) ∈ TB := tb_of (i := 1052) (by decide +kernel) rfl
theorem kc_11_237 : Cond.constant RX11 237 (-1000000001) ∈ TB := tb_of (i := 1072) (by decide +kernel) rfl
theorem kc_11_248 : Cond.constant RX11 248 (-1000000003) ∈ TB := tb_of (i := 1158) (by decide +kernel) rfl
theorem kc_11_255 : Cond.constantLong RX11 255 (9) ∈ TB := tb_of (i := 1167) (by decide +kernel) rfl
theorem kc_11_260 : Cond.constantLong RX11 260 (1103515245) ∈ TB := tb_of (i := 1201) (by decide +kernel) rfl
theorem kc_11_262 : Cond.constantLong RX11 262 (12345) ∈ TB := tb_of (i := 1202) (by decide +kernel) rfl
theorem kc_11_264 : Cond.constantLong RX11 264 (2147483648) ∈ TB := tb_of (i := 1203) (by decide +kernel) rfl
theorem kc_11_266 : Cond.constant RX11 266 (65536) ∈ TB := tb_of (i := 1204) (by decide +kernel) rfl
theorem kc_11_270 : Cond.constantLong RX11 270 (60) ∈ TB := tb_of (i := 1192) (by decide +kernel) rfl
theorem kc_11_281 : Cond.constantLong RX11 281 (-1) ∈ TB := tb_of (i := 1213) (by decide +kernel) rfl
theorem kc_11_310 : Cond.constantLong RX11 310 (508) ∈ TB := tb_of (i := 1254) (by decide +kernel) rfl
theorem kc_11_315 : Cond.constantLong RX11 315 (100) ∈ TB := tb_of (i := 1267) (by decide +kernel) rfl
theorem kc_11_317 : Cond.constantLong RX11 317 (1000000000) ∈ TB := tb_of (i := 1268) (by decide +kernel) rfl
theorem kc_11_319 : Cond.constantLong RX11 319 (999) ∈ TB := tb_of (i := 1273) (by decide +kernel) rfl
theorem kc_11_324 : Cond.constantLong RX11 324 (2) ∈ TB := tb_of (i := 1278) (by decide +kernel) rfl
theorem ml_10_88 : ML RX10 88 yX7_begin := Or.inr ⟨"RollingCodes", nb_of (i := 297) (by decide +kernel) rfl⟩
theorem ml_10_91 : ML RX10 91 yX8_clear := Or.inr ⟨"RollingCodes", nb_of (i := 309) (by decide +kernel) rfl⟩
theorem ml_10_95 : ML RX10 95 yX9_add := Or.inr ⟨"RollingCodes", nb_of (i := 355) (by decide +kernel) rfl⟩
theorem ml_10_103 : ML RX10 103 yX5_read := Or.inr ⟨"RollingCodes", nb_of (i := 364) (by decide +kernel) rfl⟩
theorem ml_10_107 : ML RX10 107 yX9_clear := Or.inr ⟨"RollingCodes", nb_of (i := 435) (by decide +kernel) rfl⟩
theorem ml_10_115 : ML RX10 115 yX4_copyFrom := Or.inr ⟨"RollingCodes", nb_of (i := 439) (by decide +kernel) rfl⟩
theorem ml_10_118 : ML RX10 118 yX3_forget := Or.inr ⟨"RollingCodes", nb_of (i := 446) (by decide +kernel) rfl⟩
theorem ml_10_121 : ML RX10 121 yX2_forget := Or.inr ⟨"RollingCodes", nb_of (i := 450) (by decide +kernel) rfl⟩
theorem ml_10_122 : ML RX10 122 yX0_clear := Or.inr ⟨"RollingCodes", nb_of (i := 454) (by decide +kernel) rfl⟩
theorem ml_10_148 : ML RX10 148 yX7_allOpenings := Or.inr ⟨"RollingCodes", nb_of (i := 466) (by decide +kernel) rfl⟩
theorem ml_10_157 : ML RX10 157 yX4_isFob := Or.inr ⟨"RollingCodes", nb_of (i := 474) (by decide +kernel) rfl⟩
theorem mk_10_180 : Cond.methodLink RX10 180 yX10_bestPlace ∈ TB := tb_of (i := 479) (by decide +kernel) rfl
theorem ml_10_180 : ML RX10 180 yX10_bestPlace := Or.inl mk_10_180
theorem ml_10_184 : ML RX10 184 yX4_isGate := Or.inr ⟨"RollingCodes", nb_of (i := 579) (by decide +kernel) rfl⟩
theorem mk_10_205 : Cond.methodLink RX10 205 yX10_usefulAt ∈ TB := tb_of (i := 583) (by decide +kernel) rfl
theorem ml_10_205 : ML RX10 205 yX10_usefulAt := Or.inl mk_10_205
theorem mk_10_208 : Cond.methodLink RX10 208 yX10_areKnown ∈ TB := tb_of (i := 592) (by decide +kernel) rfl
theorem ml_10_208 : ML RX10 208 yX10_areKnown := Or.inl mk_10_208
theorem ml_10_212 : ML RX10 212 yX7_lastOf := Or.inr ⟨"RollingCodes", nb_of (i := 596) (by decide +kernel) rfl⟩
theorem ml_10_216 : ML RX10 216 yX7_isKept := Or.inr ⟨"RollingCodes", nb_of (i := 601) (by decide +kernel) rfl⟩
theorem mk_10_222 : Cond.methodLink RX10 222 yX10_codeOf ∈ TB := tb_of (i := 609) (by decide +kernel) rfl
theorem ml_10_222 : ML RX10 222 yX10_codeOf := Or.inl mk_10_222
theorem ml_10_226 : ML RX10 226 yX3_remember := Or.inr ⟨"RollingCodes", nb_of (i := 615) (by decide +kernel) rfl⟩
theorem ml_10_230 : ML RX10 230 yX7_pressedFrom := Or.inr ⟨"RollingCodes", nb_of (i := 492) (by decide +kernel) rfl⟩
theorem mk_10_233 : Cond.methodLink RX10 233 yX10_isPlace ∈ TB := tb_of (i := 625) (by decide +kernel) rfl
theorem ml_10_233 : ML RX10 233 yX10_isPlace := Or.inl mk_10_233
theorem ml_10_236 : ML RX10 236 yX7_isNoisy := Or.inr ⟨"RollingCodes", nb_of (i := 636) (by decide +kernel) rfl⟩
theorem ml_10_239 : ML RX10 239 yX7_turnNoise := Or.inr ⟨"RollingCodes", nb_of (i := 637) (by decide +kernel) rfl⟩
theorem ml_10_243 : ML RX10 243 yX7_taught := Or.inr ⟨"RollingCodes", nb_of (i := 645) (by decide +kernel) rfl⟩
theorem ml_10_247 : ML RX10 247 yX7_sentAgain := Or.inr ⟨"RollingCodes", nb_of (i := 650) (by decide +kernel) rfl⟩
theorem mk_10_250 : Cond.methodLink RX10 250 yX10_passHour ∈ TB := tb_of (i := 662) (by decide +kernel) rfl
theorem ml_10_250 : ML RX10 250 yX10_passHour := Or.inl mk_10_250
theorem ml_10_253 : ML RX10 253 yX3_takeBack := Or.inr ⟨"RollingCodes", nb_of (i := 678) (by decide +kernel) rfl⟩
theorem mk_10_256 : Cond.methodLink RX10 256 yX10_opensFrom ∈ TB := tb_of (i := 483) (by decide +kernel) rfl
theorem ml_10_256 : ML RX10 256 yX10_opensFrom := Or.inl mk_10_256
theorem mk_10_259 : Cond.methodLink RX10 259 yJ9_floorMod_7cf53 ∈ TB := tb_of (i := 690) (by decide +kernel) rfl
theorem ml_10_259 : ML RX10 259 yJ9_floorMod_7cf53 := Or.inl mk_10_259
theorem ml_10_264 : ML RX10 264 yX7_copyFrom := Or.inr ⟨"RollingCodes", nb_of (i := 487) (by decide +kernel) rfl⟩
theorem ml_10_266 : ML RX10 266 yX7_pressedUnheard := Or.inr ⟨"RollingCodes", nb_of (i := 697) (by decide +kernel) rfl⟩
theorem ml_10_269 : ML RX10 269 yX7_opensBeside := Or.inr ⟨"RollingCodes", nb_of (i := 701) (by decide +kernel) rfl⟩
theorem ml_10_272 : ML RX10 272 yX6_find := Or.inr ⟨"RollingCodes", nb_of (i := 713) (by decide +kernel) rfl⟩
theorem mk_10_279 : Cond.methodLink RX10 279 yX10_isCode ∈ TB := tb_of (i := 734) (by decide +kernel) rfl
theorem ml_10_279 : ML RX10 279 yX10_isCode := Or.inl mk_10_279
theorem mk_10_282 : Cond.methodLink RX10 282 yX10_couldSend ∈ TB := tb_of (i := 737) (by decide +kernel) rfl
theorem ml_10_282 : ML RX10 282 yX10_couldSend := Or.inl mk_10_282
theorem ml_10_285 : ML RX10 285 yX7_codeAhead := Or.inr ⟨"RollingCodes", nb_of (i := 741) (by decide +kernel) rfl⟩
theorem ml_10_292 : ML RX10 292 yX8_add := Or.inr ⟨"RollingCodes", nb_of (i := 756) (by decide +kernel) rfl⟩
theorem ml_10_294 : ML RX10 294 yX8_fitting := Or.inr ⟨"RollingCodes", nb_of (i := 765) (by decide +kernel) rfl⟩
theorem ml_10_297 : ML RX10 297 yX8_leastFitting := Or.inr ⟨"RollingCodes", nb_of (i := 769) (by decide +kernel) rfl⟩
theorem ml_10_300 : ML RX10 300 yX8_greatestFitting := Or.inr ⟨"RollingCodes", nb_of (i := 773) (by decide +kernel) rfl⟩
theorem ml_10_303 : ML RX10 303 yX8_bestQuestion := Or.inr ⟨"RollingCodes", nb_of (i := 781) (by decide +kernel) rfl⟩
theorem ml_10_306 : ML RX10 306 yX0_add := Or.inr ⟨"RollingCodes", nb_of (i := 795) (by decide +kernel) rfl⟩
theorem ml_10_307 : ML RX10 307 yX0_firstFalse := Or.inr ⟨"RollingCodes", nb_of (i := 807) (by decide +kernel) rfl⟩
theorem ml_10_313 : ML RX10 313 yX2_isImage := Or.inr ⟨"RollingCodes", nb_of (i := 819) (by decide +kernel) rfl⟩
theorem ml_10_316 : ML RX10 316 yX2_take := Or.inr ⟨"RollingCodes", nb_of (i := 823) (by decide +kernel) rfl⟩
theorem ml_10_320 : ML RX10 320 yX2_isTaken := Or.inr ⟨"RollingCodes", nb_of (i := 832) (by decide +kernel) rfl⟩
theorem ml_10_323 : ML RX10 323 yX2_bringBack := Or.inr ⟨"RollingCodes", nb_of (i := 836) (by decide +kernel) rfl⟩
theorem mk_10_326 : Cond.methodLink RX10 326 yJ6_bitCount_0f7a4 ∈ TB := tb_of (i := 569) (by decide +kernel) rfl
theorem ml_10_326 : ML RX10 326 yJ6_bitCount_0f7a4 := Or.inl mk_10_326
theorem ml_10_331 : ML RX10 331 yX7_hears := Or.inr ⟨"RollingCodes", nb_of (i := 587) (by decide +kernel) rfl⟩
theorem ml_10_334 : ML RX10 334 yX1_next := Or.inr ⟨"RollingCodes", nb_of (i := 666) (by decide +kernel) rfl⟩
theorem ml_2_28 : ML RX2 28 yX7_copyFrom := Or.inr ⟨"RollingCodes", nb_of (i := 827) (by decide +kernel) rfl⟩
theorem ml_3_24 : ML RX3 24 yX7_copyFrom := Or.inr ⟨"RollingCodes", nb_of (i := 619) (by decide +kernel) rfl⟩
theorem mk_3_31 : Cond.methodLink RX3 31 Lib.Math.min.name ∈ TB := tb_of (i := 620) (by decide +kernel) rfl
theorem ml_3_31 : ML RX3 31 Lib.Math.min.name := Or.inl mk_3_31
theorem mk_4_53 : Cond.methodLink RX4 53 arraycopyName ∈ TB := tb_of (i := 443) (by decide +kernel) rfl
theorem ml_4_53 : ML RX4 53 arraycopyName := Or.inl mk_4_53
theorem ml_5_22 : ML RX5 22 yX4_clear := Or.inr ⟨"RollingCodes", nb_of (i := 368) (by decide +kernel) rfl⟩
theorem mk_5_35 : Cond.methodLink RX5 35 yX5_skipBlanks ∈ TB := tb_of (i := 372) (by decide +kernel) rfl
theorem ml_5_35 : ML RX5 35 yX5_skipBlanks := Or.inl mk_5_35
theorem mk_5_44 : Cond.methodLink RX5 44 yX5_readClause ∈ TB := tb_of (i := 380) (by decide +kernel) rfl
theorem ml_5_44 : ML RX5 44 yX5_readClause := Or.inl mk_5_44
theorem ml_5_47 : ML RX5 47 yX9_letterAt := Or.inr ⟨"RollingCodes", nb_of (i := 376) (by decide +kernel) rfl⟩
theorem mk_5_51 : Cond.methodLink RX5 51 yX5_faultOfWord ∈ TB := tb_of (i := 384) (by decide +kernel) rfl
theorem ml_5_51 : ML RX5 51 yX5_faultOfWord := Or.inl mk_5_51
theorem mk_5_54 : Cond.methodLink RX5 54 yX5_fail ∈ TB := tb_of (i := 388) (by decide +kernel) rfl
theorem ml_5_54 : ML RX5 54 yX5_fail := Or.inl mk_5_54
theorem mk_5_64 : Cond.methodLink RX5 64 yX5_readNumbers ∈ TB := tb_of (i := 396) (by decide +kernel) rfl
theorem ml_5_64 : ML RX5 64 yX5_readNumbers := Or.inl mk_5_64
theorem mk_5_80 : Cond.methodLink RX5 80 yX5_readEnd ∈ TB := tb_of (i := 415) (by decide +kernel) rfl
theorem ml_5_80 : ML RX5 80 yX5_readEnd := Or.inl mk_5_80
theorem mk_5_83 : Cond.methodLink RX5 83 yX5_enter ∈ TB := tb_of (i := 419) (by decide +kernel) rfl
theorem ml_5_83 : ML RX5 83 yX5_enter := Or.inl mk_5_83
theorem mk_5_97 : Cond.methodLink RX5 97 yX5_readNumber ∈ TB := tb_of (i := 400) (by decide +kernel) rfl
theorem ml_5_97 : ML RX5 97 yX5_readNumber := Or.inl mk_5_97
theorem mk_5_101 : Cond.methodLink RX5 101 yX5_isFigure ∈ TB := tb_of (i := 404) (by decide +kernel) rfl
theorem ml_5_101 : ML RX5 101 yX5_isFigure := Or.inl mk_5_101
theorem ml_5_105 : ML RX5 105 yX4_addEar := Or.inr ⟨"RollingCodes", nb_of (i := 423) (by decide +kernel) rfl⟩
theorem ml_5_109 : ML RX5 109 yX4_addGate := Or.inr ⟨"RollingCodes", nb_of (i := 427) (by decide +kernel) rfl⟩
theorem ml_5_112 : ML RX5 112 yX4_addFob := Or.inr ⟨"RollingCodes", nb_of (i := 431) (by decide +kernel) rfl⟩
theorem ml_6_24 : ML RX6 24 yX7_copyFrom := Or.inr ⟨"RollingCodes", nb_of (i := 717) (by decide +kernel) rfl⟩
theorem ml_6_28 : ML RX6 28 yX7_gatesInReach := Or.inr ⟨"RollingCodes", nb_of (i := 718) (by decide +kernel) rfl⟩
theorem mk_6_32 : Cond.methodLink RX6 32 yX6_canEnd ∈ TB := tb_of (i := 722) (by decide +kernel) rfl
theorem ml_6_32 : ML RX6 32 yX6_canEnd := Or.inl mk_6_32
theorem ml_6_40 : ML RX6 40 yX7_sentAgain := Or.inr ⟨"RollingCodes", nb_of (i := 725) (by decide +kernel) rfl⟩
theorem ml_6_44 : ML RX6 44 yX7_waitsAs := Or.inr ⟨"RollingCodes", nb_of (i := 726) (by decide +kernel) rfl⟩
theorem mk_7_62 : Cond.methodLink RX7 62 yX7_waitFor ∈ TB := tb_of (i := 301) (by decide +kernel) rfl
theorem ml_7_62 : ML RX7 62 yX7_waitFor := Or.inl mk_7_62
theorem mk_7_66 : Cond.methodLink RX7 66 yX7_taught ∈ TB := tb_of (i := 305) (by decide +kernel) rfl
theorem ml_7_66 : ML RX7 66 yX7_taught := Or.inl mk_7_66
theorem mk_7_70 : Cond.methodLink RX7 70 arraycopyName ∈ TB := tb_of (i := 491) (by decide +kernel) rfl
theorem ml_7_70 : ML RX7 70 arraycopyName := Or.inl mk_7_70
theorem ml_7_82 : ML RX7 82 yX10_codeOf := Or.inr ⟨"RollingCodes", nb_of (i := 516) (by decide +kernel) rfl⟩
theorem mk_7_86 : Cond.methodLink RX7 86 yX7_rangeNow ∈ TB := tb_of (i := 496) (by decide +kernel) rfl
theorem ml_7_86 : ML RX7 86 yX7_rangeNow := Or.inl mk_7_86
theorem ml_7_90 : ML RX7 90 yX4_sendings := Or.inr ⟨"RollingCodes", nb_of (i := 500) (by decide +kernel) rfl⟩
theorem mk_7_93 : Cond.methodLink RX7 93 yX7_nextCode ∈ TB := tb_of (i := 504) (by decide +kernel) rfl
theorem ml_7_93 : ML RX7 93 yX7_nextCode := Or.inl mk_7_93
theorem mk_7_96 : Cond.methodLink RX7 96 yX7_heardByGates ∈ TB := tb_of (i := 519) (by decide +kernel) rfl
theorem ml_7_96 : ML RX7 96 yX7_heardByGates := Or.inl mk_7_96
theorem mk_7_100 : Cond.methodLink RX7 100 yX7_heardByEar ∈ TB := tb_of (i := 562) (by decide +kernel) rfl
theorem ml_7_100 : ML RX7 100 yX7_heardByEar := Or.inl mk_7_100
theorem ml_7_103 : ML RX7 103 yX4_stride := Or.inr ⟨"RollingCodes", nb_of (i := 508) (by decide +kernel) rfl⟩
theorem mk_7_106 : Cond.methodLink RX7 106 yX7_hears ∈ TB := tb_of (i := 534) (by decide +kernel) rfl
theorem ml_7_106 : ML RX7 106 yX7_hears := Or.inl mk_7_106
theorem mk_7_113 : Cond.methodLink RX7 113 yX7_isHeardAt ∈ TB := tb_of (i := 523) (by decide +kernel) rfl
theorem ml_7_113 : ML RX7 113 yX7_isHeardAt := Or.inl mk_7_113
theorem mk_7_123 : Cond.methodLink RX7 123 yX7_codeAhead ∈ TB := tb_of (i := 512) (by decide +kernel) rfl
theorem ml_7_123 : ML RX7 123 yX7_codeAhead := Or.inl mk_7_123
theorem mk_7_126 : Cond.methodLink RX7 126 yX7_isNoisy ∈ TB := tb_of (i := 527) (by decide +kernel) rfl
theorem ml_7_126 : ML RX7 126 yX7_isNoisy := Or.inl mk_7_126
theorem mk_7_133 : Cond.methodLink RX7 133 Lib.Math.abs.name ∈ TB := tb_of (i := 531) (by decide +kernel) rfl
theorem ml_7_133 : ML RX7 133 Lib.Math.abs.name := Or.inl mk_7_133
theorem mk_7_138 : Cond.methodLink RX7 138 Lib.Math.max.name ∈ TB := tb_of (i := 566) (by decide +kernel) rfl
theorem ml_7_138 : ML RX7 138 Lib.Math.max.name := Or.inl mk_7_138
theorem mk_7_141 : Cond.methodLink RX7 141 Lib.Math.min.name ∈ TB := tb_of (i := 543) (by decide +kernel) rfl
theorem ml_7_141 : ML RX7 141 Lib.Math.min.name := Or.inl mk_7_141
theorem ml_7_144 : ML RX7 144 yX4_isFob := Or.inr ⟨"RollingCodes", nb_of (i := 538) (by decide +kernel) rfl⟩
theorem mk_7_147 : Cond.methodLink RX7 147 yX7_open ∈ TB := tb_of (i := 539) (by decide +kernel) rfl
theorem ml_7_147 : ML RX7 147 yX7_open := Or.inl mk_7_147
theorem mk_7_153 : Cond.methodLink RX7 153 yX7_firstAhead ∈ TB := tb_of (i := 546) (by decide +kernel) rfl
theorem ml_7_153 : ML RX7 153 yX7_firstAhead := Or.inl mk_7_153
theorem mk_7_156 : Cond.methodLink RX7 156 yX7_lastOf ∈ TB := tb_of (i := 550) (by decide +kernel) rfl
theorem ml_7_156 : ML RX7 156 yX7_lastOf := Or.inl mk_7_156
theorem ml_7_162 : ML RX7 162 yX4_mostAhead := Or.inr ⟨"RollingCodes", nb_of (i := 554) (by decide +kernel) rfl⟩
theorem ml_7_165 : ML RX7 165 yX4_leastAhead := Or.inr ⟨"RollingCodes", nb_of (i := 558) (by decide +kernel) rfl⟩
theorem ml_8_23 : ML RX8 23 yX10_codeOf := Or.inr ⟨"RollingCodes", nb_of (i := 760) (by decide +kernel) rfl⟩
theorem mk_8_27 : Cond.methodLink RX8 27 yX8_fitting ∈ TB := tb_of (i := 785) (by decide +kernel) rfl
theorem ml_8_27 : ML RX8 27 yX8_fitting := Or.inl mk_8_27
theorem mk_8_31 : Cond.methodLink RX8 31 yX8_greatestPart ∈ TB := tb_of (i := 786) (by decide +kernel) rfl
theorem ml_8_31 : ML RX8 31 yX8_greatestPart := Or.inl mk_8_31
theorem mk_8_35 : Cond.methodLink RX8 35 Lib.Math.max.name ∈ TB := tb_of (i := 790) (by decide +kernel) rfl
theorem ml_8_35 : ML RX8 35 Lib.Math.max.name := Or.inl mk_8_35
theorem mk_L_13 : Cond.methodLink RL 13 yX10_feed ∈ TB := tb_of (i := 350) (by decide +kernel) rfl
theorem ml_L_13 : ML RL 13 yX10_feed := Or.inl mk_L_13
theorem mk_L_17 : Cond.methodLink RL 17 yX11_feed ∈ TB := tb_of (i := 985) (by decide +kernel) rfl
theorem ml_L_17 : ML RL 17 yX11_feed := Or.inl mk_L_17
theorem mk_L_18 : Cond.methodLink RL 18 yX10_street ∈ TB := tb_of (i := 360) (by decide +kernel) rfl
theorem ml_L_18 : ML RL 18 yX10_street := Or.inl mk_L_18
theorem mk_L_22 : Cond.methodLink RL 22 yX11_street ∈ TB := tb_of (i := 995) (by decide +kernel) rfl
theorem ml_L_22 : ML RL 22 yX11_street := Or.inl mk_L_22
theorem mk_L_23 : Cond.methodLink RL 23 yX10_fault ∈ TB := tb_of (i := 458) (by decide +kernel) rfl
theorem ml_L_23 : ML RL 23 yX10_fault := Or.inl mk_L_23
theorem mk_L_26 : Cond.methodLink RL 26 yX11_fault ∈ TB := tb_of (i := 1044) (by decide +kernel) rfl
theorem ml_L_26 : ML RL 26 yX11_fault := Or.inl mk_L_26
theorem mk_L_27 : Cond.methodLink RL 27 yX10_told ∈ TB := tb_of (i := 462) (by decide +kernel) rfl
theorem ml_L_27 : ML RL 27 yX10_told := Or.inl mk_L_27
theorem mk_L_30 : Cond.methodLink RL 30 yX11_told ∈ TB := tb_of (i := 1056) (by decide +kernel) rfl
theorem ml_L_30 : ML RL 30 yX11_told := Or.inl mk_L_30
theorem mk_L_31 : Cond.methodLink RL 31 yX10_fob ∈ TB := tb_of (i := 470) (by decide +kernel) rfl
theorem ml_L_31 : ML RL 31 yX10_fob := Or.inl mk_L_31
theorem mk_L_35 : Cond.methodLink RL 35 yX11_fob ∈ TB := tb_of (i := 1064) (by decide +kernel) rfl
theorem ml_L_35 : ML RL 35 yX11_fob := Or.inl mk_L_35
theorem mk_L_36 : Cond.methodLink RL 36 yX10_gate ∈ TB := tb_of (i := 575) (by decide +kernel) rfl
theorem ml_L_36 : ML RL 36 yX10_gate := Or.inl mk_L_36
theorem mk_L_39 : Cond.methodLink RL 39 yX11_gate ∈ TB := tb_of (i := 1134) (by decide +kernel) rfl
theorem ml_L_39 : ML RL 39 yX11_gate := Or.inl mk_L_39
theorem mk_L_40 : Cond.methodLink RL 40 yX10_last ∈ TB := tb_of (i := 588) (by decide +kernel) rfl
theorem ml_L_40 : ML RL 40 yX10_last := Or.inl mk_L_40
theorem mk_L_43 : Cond.methodLink RL 43 yX11_last ∈ TB := tb_of (i := 1146) (by decide +kernel) rfl
theorem ml_L_43 : ML RL 43 yX11_last := Or.inl mk_L_43
theorem mk_L_44 : Cond.methodLink RL 44 yX10_kept ∈ TB := tb_of (i := 597) (by decide +kernel) rfl
theorem ml_L_44 : ML RL 44 yX10_kept := Or.inl mk_L_44
theorem mk_L_47 : Cond.methodLink RL 47 yX11_kept ∈ TB := tb_of (i := 1150) (by decide +kernel) rfl
theorem ml_L_47 : ML RL 47 yX11_kept := Or.inl mk_L_47
theorem mk_L_48 : Cond.methodLink RL 48 yX10_code ∈ TB := tb_of (i := 605) (by decide +kernel) rfl
theorem ml_L_48 : ML RL 48 yX10_code := Or.inl mk_L_48
theorem mk_L_51 : Cond.methodLink RL 51 yX11_code ∈ TB := tb_of (i := 1048) (by decide +kernel) rfl
theorem ml_L_51 : ML RL 51 yX11_code := Or.inl mk_L_51
theorem mk_L_52 : Cond.methodLink RL 52 yX10_press ∈ TB := tb_of (i := 610) (by decide +kernel) rfl
theorem ml_L_52 : ML RL 52 yX10_press := Or.inl mk_L_52
theorem mk_L_55 : Cond.methodLink RL 55 yX11_press ∈ TB := tb_of (i := 1154) (by decide +kernel) rfl
theorem ml_L_55 : ML RL 55 yX11_press := Or.inl mk_L_55
theorem mk_L_56 : Cond.methodLink RL 56 yX10_step ∈ TB := tb_of (i := 621) (by decide +kernel) rfl
theorem ml_L_56 : ML RL 56 yX10_step := Or.inl mk_L_56
theorem mk_L_59 : Cond.methodLink RL 59 yX11_step ∈ TB := tb_of (i := 1163) (by decide +kernel) rfl
theorem ml_L_59 : ML RL 59 yX11_step := Or.inl mk_L_59
theorem mk_L_60 : Cond.methodLink RL 60 yX10_earTo ∈ TB := tb_of (i := 628) (by decide +kernel) rfl
theorem ml_L_60 : ML RL 60 yX10_earTo := Or.inl mk_L_60
theorem mk_L_63 : Cond.methodLink RL 63 yX11_earTo ∈ TB := tb_of (i := 1168) (by decide +kernel) rfl
theorem ml_L_63 : ML RL 63 yX11_earTo := Or.inl mk_L_63
theorem mk_L_64 : Cond.methodLink RL 64 yX10_noise ∈ TB := tb_of (i := 632) (by decide +kernel) rfl
theorem ml_L_64 : ML RL 64 yX10_noise := Or.inl mk_L_64
theorem mk_L_68 : Cond.methodLink RL 68 yX11_noise ∈ TB := tb_of (i := 1172) (by decide +kernel) rfl
theorem ml_L_68 : ML RL 68 yX11_noise := Or.inl mk_L_68
theorem mk_L_69 : Cond.methodLink RL 69 yX10_teach ∈ TB := tb_of (i := 641) (by decide +kernel) rfl
theorem ml_L_69 : ML RL 69 yX10_teach := Or.inl mk_L_69
theorem mk_L_72 : Cond.methodLink RL 72 yX11_teach ∈ TB := tb_of (i := 1176) (by decide +kernel) rfl
theorem ml_L_72 : ML RL 72 yX11_teach := Or.inl mk_L_72
theorem mk_L_73 : Cond.methodLink RL 73 yX10_again ∈ TB := tb_of (i := 646) (by decide +kernel) rfl
theorem ml_L_73 : ML RL 73 yX10_again := Or.inl mk_L_73
theorem mk_L_76 : Cond.methodLink RL 76 yX11_again ∈ TB := tb_of (i := 1180) (by decide +kernel) rfl
theorem ml_L_76 : ML RL 76 yX11_again := Or.inl mk_L_76
theorem mk_L_77 : Cond.methodLink RL 77 yX10_fill ∈ TB := tb_of (i := 654) (by decide +kernel) rfl
theorem ml_L_77 : ML RL 77 yX10_fill := Or.inl mk_L_77
theorem mk_L_80 : Cond.methodLink RL 80 yX11_fill ∈ TB := tb_of (i := 1184) (by decide +kernel) rfl
theorem ml_L_80 : ML RL 80 yX11_fill := Or.inl mk_L_80
theorem mk_L_81 : Cond.methodLink RL 81 yX10_drift ∈ TB := tb_of (i := 658) (by decide +kernel) rfl
theorem ml_L_81 : ML RL 81 yX10_drift := Or.inl mk_L_81
theorem mk_L_84 : Cond.methodLink RL 84 yX11_drift ∈ TB := tb_of (i := 1188) (by decide +kernel) rfl
theorem ml_L_84 : ML RL 84 yX11_drift := Or.inl mk_L_84
theorem mk_L_85 : Cond.methodLink RL 85 yX10_undo ∈ TB := tb_of (i := 674) (by decide +kernel) rfl
theorem ml_L_85 : ML RL 85 yX10_undo := Or.inl mk_L_85
theorem mk_L_88 : Cond.methodLink RL 88 yX11_undo ∈ TB := tb_of (i := 1205) (by decide +kernel) rfl
theorem ml_L_88 : ML RL 88 yX11_undo := Or.inl mk_L_88
theorem mk_L_89 : Cond.methodLink RL 89 yX10_wouldOpen ∈ TB := tb_of (i := 682) (by decide +kernel) rfl
theorem ml_L_89 : ML RL 89 yX10_wouldOpen := Or.inl mk_L_89
theorem mk_L_92 : Cond.methodLink RL 92 yX11_wouldOpen ∈ TB := tb_of (i := 1209) (by decide +kernel) rfl
theorem ml_L_92 : ML RL 92 yX11_wouldOpen := Or.inl mk_L_92
theorem mk_L_93 : Cond.methodLink RL 93 yX10_ahead ∈ TB := tb_of (i := 686) (by decide +kernel) rfl
theorem ml_L_93 : ML RL 93 yX10_ahead := Or.inl mk_L_93
theorem mk_L_96 : Cond.methodLink RL 96 yX11_ahead ∈ TB := tb_of (i := 1214) (by decide +kernel) rfl
theorem ml_L_96 : ML RL 96 yX11_ahead := Or.inl mk_L_96
theorem mk_L_97 : Cond.methodLink RL 97 yX10_locked ∈ TB := tb_of (i := 693) (by decide +kernel) rfl
theorem ml_L_97 : ML RL 97 yX10_locked := Or.inl mk_L_97
theorem mk_L_100 : Cond.methodLink RL 100 yX11_locked ∈ TB := tb_of (i := 1222) (by decide +kernel) rfl
theorem ml_L_100 : ML RL 100 yX11_locked := Or.inl mk_L_100
theorem mk_L_101 : Cond.methodLink RL 101 yX10_takes ∈ TB := tb_of (i := 705) (by decide +kernel) rfl
theorem ml_L_101 : ML RL 101 yX10_takes := Or.inl mk_L_101
theorem mk_L_104 : Cond.methodLink RL 104 yX11_takes ∈ TB := tb_of (i := 1230) (by decide +kernel) rfl
theorem ml_L_104 : ML RL 104 yX11_takes := Or.inl mk_L_104
theorem mk_L_105 : Cond.methodLink RL 105 yX10_row ∈ TB := tb_of (i := 709) (by decide +kernel) rfl
theorem ml_L_105 : ML RL 105 yX10_row := Or.inl mk_L_105
theorem mk_L_108 : Cond.methodLink RL 108 yX11_row ∈ TB := tb_of (i := 1234) (by decide +kernel) rfl
theorem ml_L_108 : ML RL 108 yX11_row := Or.inl mk_L_108
theorem mk_L_109 : Cond.methodLink RL 109 yX10_who ∈ TB := tb_of (i := 730) (by decide +kernel) rfl
theorem ml_L_109 : ML RL 109 yX10_who := Or.inl mk_L_109
theorem mk_L_112 : Cond.methodLink RL 112 yX11_who ∈ TB := tb_of (i := 1250) (by decide +kernel) rfl
theorem ml_L_112 : ML RL 112 yX11_who := Or.inl mk_L_112
theorem mk_L_113 : Cond.methodLink RL 113 yX10_same ∈ TB := tb_of (i := 742) (by decide +kernel) rfl
theorem ml_L_113 : ML RL 113 yX10_same := Or.inl mk_L_113
theorem mk_L_116 : Cond.methodLink RL 116 yX11_same ∈ TB := tb_of (i := 1259) (by decide +kernel) rfl
theorem ml_L_116 : ML RL 116 yX11_same := Or.inl mk_L_116
theorem mk_L_117 : Cond.methodLink RL 117 yX10_quiet ∈ TB := tb_of (i := 746) (by decide +kernel) rfl
theorem ml_L_117 : ML RL 117 yX10_quiet := Or.inl mk_L_117
theorem mk_L_120 : Cond.methodLink RL 120 yX11_quiet ∈ TB := tb_of (i := 1263) (by decide +kernel) rfl
theorem ml_L_120 : ML RL 120 yX11_quiet := Or.inl mk_L_120
theorem mk_L_121 : Cond.methodLink RL 121 yX10_see ∈ TB := tb_of (i := 752) (by decide +kernel) rfl
theorem ml_L_121 : ML RL 121 yX10_see := Or.inl mk_L_121
theorem mk_L_124 : Cond.methodLink RL 124 yX11_see ∈ TB := tb_of (i := 1269) (by decide +kernel) rfl
theorem ml_L_124 : ML RL 124 yX11_see := Or.inl mk_L_124
theorem mk_L_125 : Cond.methodLink RL 125 yX10_secrets ∈ TB := tb_of (i := 761) (by decide +kernel) rfl
theorem ml_L_125 : ML RL 125 yX10_secrets := Or.inl mk_L_125
theorem mk_L_128 : Cond.methodLink RL 128 yX11_secrets ∈ TB := tb_of (i := 1274) (by decide +kernel) rfl
theorem ml_L_128 : ML RL 128 yX11_secrets := Or.inl mk_L_128
theorem mk_L_129 : Cond.methodLink RL 129 yX10_ask ∈ TB := tb_of (i := 777) (by decide +kernel) rfl
theorem ml_L_129 : ML RL 129 yX10_ask := Or.inl mk_L_129
theorem mk_L_132 : Cond.methodLink RL 132 yX11_ask ∈ TB := tb_of (i := 1287) (by decide +kernel) rfl
theorem ml_L_132 : ML RL 132 yX11_ask := Or.inl mk_L_132
theorem mk_L_133 : Cond.methodLink RL 133 yX10_write ∈ TB := tb_of (i := 791) (by decide +kernel) rfl
theorem ml_L_133 : ML RL 133 yX10_write := Or.inl mk_L_133
theorem mk_L_136 : Cond.methodLink RL 136 yX11_write ∈ TB := tb_of (i := 1295) (by decide +kernel) rfl
theorem ml_L_136 : ML RL 136 yX11_write := Or.inl mk_L_136
theorem mk_L_137 : Cond.methodLink RL 137 yX10_tear ∈ TB := tb_of (i := 799) (by decide +kernel) rfl
theorem ml_L_137 : ML RL 137 yX10_tear := Or.inl mk_L_137
theorem mk_L_140 : Cond.methodLink RL 140 yX11_tear ∈ TB := tb_of (i := 1299) (by decide +kernel) rfl
theorem ml_L_140 : ML RL 140 yX11_tear := Or.inl mk_L_140
theorem mk_L_141 : Cond.methodLink RL 141 yX10_judge ∈ TB := tb_of (i := 803) (by decide +kernel) rfl
theorem ml_L_141 : ML RL 141 yX10_judge := Or.inl mk_L_141
theorem mk_L_144 : Cond.methodLink RL 144 yX11_judge ∈ TB := tb_of (i := 1303) (by decide +kernel) rfl
theorem ml_L_144 : ML RL 144 yX11_judge := Or.inl mk_L_144
theorem mk_L_145 : Cond.methodLink RL 145 yX10_seed ∈ TB := tb_of (i := 811) (by decide +kernel) rfl
theorem ml_L_145 : ML RL 145 yX10_seed := Or.inl mk_L_145
theorem mk_L_148 : Cond.methodLink RL 148 yX11_seed ∈ TB := tb_of (i := 1307) (by decide +kernel) rfl
theorem ml_L_148 : ML RL 148 yX11_seed := Or.inl mk_L_148
theorem mk_L_149 : Cond.methodLink RL 149 yX10_keep ∈ TB := tb_of (i := 815) (by decide +kernel) rfl
theorem ml_L_149 : ML RL 149 yX10_keep := Or.inl mk_L_149
theorem mk_L_152 : Cond.methodLink RL 152 yX11_keep ∈ TB := tb_of (i := 1311) (by decide +kernel) rfl
theorem ml_L_152 : ML RL 152 yX11_keep := Or.inl mk_L_152
theorem mk_L_153 : Cond.methodLink RL 153 yX10_goBack ∈ TB := tb_of (i := 828) (by decide +kernel) rfl
theorem ml_L_153 : ML RL 153 yX10_goBack := Or.inl mk_L_153
theorem mk_L_156 : Cond.methodLink RL 156 yX11_goBack ∈ TB := tb_of (i := 1315) (by decide +kernel) rfl
theorem ml_L_156 : ML RL 156 yX11_goBack := Or.inl mk_L_156
theorem mk_11_105 : Cond.methodLink RX11 105 yX11_in ∈ TB := tb_of (i := 990) (by decide +kernel) rfl
theorem ml_11_105 : ML RX11 105 yX11_in := Or.inl mk_11_105
theorem mk_11_119 : Cond.methodLink RX11 119 yX11_here ∈ TB := tb_of (i := 999) (by decide +kernel) rfl
theorem ml_11_119 : ML RX11 119 yX11_here := Or.inl mk_11_119
theorem mk_11_127 : Cond.methodLink RX11 127 yX11_fails ∈ TB := tb_of (i := 1007) (by decide +kernel) rfl
theorem ml_11_127 : ML RX11 127 yX11_fails := Or.inl mk_11_127
theorem mk_11_134 : Cond.methodLink RX11 134 yX11_takeNumber ∈ TB := tb_of (i := 1019) (by decide +kernel) rfl
theorem ml_11_134 : ML RX11 134 yX11_takeNumber := Or.inl mk_11_134
theorem mk_11_141 : Cond.methodLink RX11 141 yX11_into ∈ TB := tb_of (i := 1015) (by decide +kernel) rfl
theorem ml_11_141 : ML RX11 141 yX11_into := Or.inl mk_11_141
theorem mk_11_151 : Cond.methodLink RX11 151 yX11_takeEar ∈ TB := tb_of (i := 1011) (by decide +kernel) rfl
theorem ml_11_151 : ML RX11 151 yX11_takeEar := Or.inl mk_11_151
theorem mk_11_154 : Cond.methodLink RX11 154 yX11_takeGate ∈ TB := tb_of (i := 1025) (by decide +kernel) rfl
theorem ml_11_154 : ML RX11 154 yX11_takeGate := Or.inl mk_11_154
theorem mk_11_157 : Cond.methodLink RX11 157 yX11_takeFob ∈ TB := tb_of (i := 1029) (by decide +kernel) rfl
theorem ml_11_157 : ML RX11 157 yX11_takeFob := Or.inl mk_11_157
theorem mk_11_169 : Cond.methodLink RX11 169 yX11_copyRow ∈ TB := tb_of (i := 1037) (by decide +kernel) rfl
theorem ml_11_169 : ML RX11 169 yX11_copyRow := Or.inl mk_11_169
theorem mk_11_173 : Cond.methodLink RX11 173 yX11_beginAll ∈ TB := tb_of (i := 1040) (by decide +kernel) rfl
theorem ml_11_173 : ML RX11 173 yX11_beginAll := Or.inl mk_11_173
theorem mk_11_176 : Cond.methodLink RX11 176 yX11_takeClause ∈ TB := tb_of (i := 1003) (by decide +kernel) rfl
theorem ml_11_176 : ML RX11 176 yX11_takeClause := Or.inl mk_11_176
theorem mk_11_179 : Cond.methodLink RX11 179 yX11_takeRead ∈ TB := tb_of (i := 1033) (by decide +kernel) rfl
theorem ml_11_179 : ML RX11 179 yX11_takeRead := Or.inl mk_11_179
theorem mk_11_193 : Cond.methodLink RX11 193 yX11_codeOf ∈ TB := tb_of (i := 1053) (by decide +kernel) rfl
theorem ml_11_193 : ML RX11 193 yX11_codeOf := Or.inl mk_11_193
theorem mk_11_196 : Cond.methodLink RX11 196 yX11_isAwaited ∈ TB := tb_of (i := 1111) (by decide +kernel) rfl
theorem ml_11_196 : ML RX11 196 yX11_isAwaited := Or.inl mk_11_196
theorem mk_11_200 : Cond.methodLink RX11 200 yX11_openBy ∈ TB := tb_of (i := 1115) (by decide +kernel) rfl
theorem ml_11_200 : ML RX11 200 yX11_openBy := Or.inl mk_11_200
theorem mk_11_204 : Cond.methodLink RX11 204 yX11_matchOf ∈ TB := tb_of (i := 1119) (by decide +kernel) rfl
theorem ml_11_204 : ML RX11 204 yX11_matchOf := Or.inl mk_11_204
theorem mk_11_208 : Cond.methodLink RX11 208 yX11_has ∈ TB := tb_of (i := 1101) (by decide +kernel) rfl
theorem ml_11_208 : ML RX11 208 yX11_has := Or.inl mk_11_208
theorem mk_11_211 : Cond.methodLink RX11 211 yX11_far ∈ TB := tb_of (i := 1104) (by decide +kernel) rfl
theorem ml_11_211 : ML RX11 211 yX11_far := Or.inl mk_11_211
theorem mk_11_214 : Cond.methodLink RX11 214 yX11_hears ∈ TB := tb_of (i := 1107) (by decide +kernel) rfl
theorem ml_11_214 : ML RX11 214 yX11_hears := Or.inl mk_11_214
theorem mk_11_217 : Cond.methodLink RX11 217 yX11_sendFrom ∈ TB := tb_of (i := 1097) (by decide +kernel) rfl
theorem ml_11_217 : ML RX11 217 yX11_sendFrom := Or.inl mk_11_217
theorem mk_11_220 : Cond.methodLink RX11 220 yX11_keepCode ∈ TB := tb_of (i := 1123) (by decide +kernel) rfl
theorem ml_11_220 : ML RX11 220 yX11_keepCode := Or.inl mk_11_220
theorem mk_11_224 : Cond.methodLink RX11 224 yX11_stepOn ∈ TB := tb_of (i := 1089) (by decide +kernel) rfl
theorem ml_11_224 : ML RX11 224 yX11_stepOn := Or.inl mk_11_224
theorem mk_11_227 : Cond.methodLink RX11 227 yX11_sendBy ∈ TB := tb_of (i := 1093) (by decide +kernel) rfl
theorem ml_11_227 : ML RX11 227 yX11_sendBy := Or.inl mk_11_227
theorem mk_11_230 : Cond.methodLink RX11 230 yX11_openings ∈ TB := tb_of (i := 1060) (by decide +kernel) rfl
theorem ml_11_230 : ML RX11 230 yX11_openings := Or.inl mk_11_230
theorem mk_11_233 : Cond.methodLink RX11 233 yX11_isFob ∈ TB := tb_of (i := 1068) (by decide +kernel) rfl
theorem ml_11_233 : ML RX11 233 yX11_isFob := Or.inl mk_11_233
theorem mk_11_238 : Cond.methodLink RX11 238 yX11_bestPlace ∈ TB := tb_of (i := 1073) (by decide +kernel) rfl
theorem ml_11_238 : ML RX11 238 yX11_bestPlace := Or.inl mk_11_238
theorem mk_11_242 : Cond.methodLink RX11 242 yX11_isGate ∈ TB := tb_of (i := 1138) (by decide +kernel) rfl
theorem ml_11_242 : ML RX11 242 yX11_isGate := Or.inl mk_11_242
theorem mk_11_245 : Cond.methodLink RX11 245 yX11_usefulAt ∈ TB := tb_of (i := 1142) (by decide +kernel) rfl
theorem ml_11_245 : ML RX11 245 yX11_usefulAt := Or.inl mk_11_245
theorem mk_11_249 : Cond.methodLink RX11 249 yX11_remember ∈ TB := tb_of (i := 1159) (by decide +kernel) rfl
theorem ml_11_249 : ML RX11 249 yX11_remember := Or.inl mk_11_249
theorem mk_11_252 : Cond.methodLink RX11 252 yX11_pressNow ∈ TB := tb_of (i := 1085) (by decide +kernel) rfl
theorem ml_11_252 : ML RX11 252 yX11_pressNow := Or.inl mk_11_252
theorem mk_11_267 : Cond.methodLink RX11 267 yX11_draw ∈ TB := tb_of (i := 1197) (by decide +kernel) rfl
theorem ml_11_267 : ML RX11 267 yX11_draw := Or.inl mk_11_267
theorem mk_11_272 : Cond.methodLink RX11 272 yX11_chance ∈ TB := tb_of (i := 1193) (by decide +kernel) rfl
theorem ml_11_272 : ML RX11 272 yX11_chance := Or.inl mk_11_272
theorem mk_11_275 : Cond.methodLink RX11 275 yX11_keepNow ∈ TB := tb_of (i := 1081) (by decide +kernel) rfl
theorem ml_11_275 : ML RX11 275 yX11_keepNow := Or.inl mk_11_275
theorem mk_11_278 : Cond.methodLink RX11 278 yX11_putBack ∈ TB := tb_of (i := 1127) (by decide +kernel) rfl
theorem ml_11_278 : ML RX11 278 yX11_putBack := Or.inl mk_11_278
theorem mk_11_283 : Cond.methodLink RX11 283 yX11_opensFrom ∈ TB := tb_of (i := 1077) (by decide +kernel) rfl
theorem ml_11_283 : ML RX11 283 yX11_opensFrom := Or.inl mk_11_283
theorem mk_11_286 : Cond.methodLink RX11 286 yX11_bits ∈ TB := tb_of (i := 1131) (by decide +kernel) rfl
theorem ml_11_286 : ML RX11 286 yX11_bits := Or.inl mk_11_286
theorem mk_11_289 : Cond.methodLink RX11 289 yX11_aheadOf ∈ TB := tb_of (i := 1218) (by decide +kernel) rfl
theorem ml_11_289 : ML RX11 289 yX11_aheadOf := Or.inl mk_11_289
theorem mk_11_292 : Cond.methodLink RX11 292 yX11_opensNextTo ∈ TB := tb_of (i := 1226) (by decide +kernel) rfl
theorem ml_11_292 : ML RX11 292 yX11_opensNextTo := Or.inl mk_11_292
theorem mk_11_295 : Cond.methodLink RX11 295 yX11_inReach ∈ TB := tb_of (i := 1242) (by decide +kernel) rfl
theorem ml_11_295 : ML RX11 295 yX11_inReach := Or.inl mk_11_295
theorem mk_11_304 : Cond.methodLink RX11 304 yX11_opensAll ∈ TB := tb_of (i := 1246) (by decide +kernel) rfl
theorem ml_11_304 : ML RX11 304 yX11_opensAll := Or.inl mk_11_304
theorem mk_11_307 : Cond.methodLink RX11 307 yX11_findRow ∈ TB := tb_of (i := 1238) (by decide +kernel) rfl
theorem ml_11_307 : ML RX11 307 yX11_findRow := Or.inl mk_11_307
theorem mk_11_312 : Cond.methodLink RX11 312 yX11_couldSend ∈ TB := tb_of (i := 1255) (by decide +kernel) rfl
theorem ml_11_312 : ML RX11 312 yX11_couldSend := Or.inl mk_11_312
theorem mk_11_321 : Cond.methodLink RX11 321 yX11_couldBe ∈ TB := tb_of (i := 1279) (by decide +kernel) rfl
theorem ml_11_321 : ML RX11 321 yX11_couldBe := Or.inl mk_11_321
theorem mk_11_326 : Cond.methodLink RX11 326 yX11_manySecrets ∈ TB := tb_of (i := 1283) (by decide +kernel) rfl
theorem ml_11_326 : ML RX11 326 yX11_manySecrets := Or.inl mk_11_326
theorem mk_11_329 : Cond.methodLink RX11 329 yX11_greatestPart ∈ TB := tb_of (i := 1291) (by decide +kernel) rfl
theorem ml_11_329 : ML RX11 329 yX11_greatestPart := Or.inl mk_11_329
theorem sl_5_58 : Cond.fieldLink RX5 58 "RollingCodes$Reader" "EAR_LEAST" "[I" ∈ TB := tb_of (i := 392) (by decide +kernel) rfl
theorem sl_5_61 : Cond.fieldLink RX5 61 "RollingCodes$Reader" "EAR_MOST" "[I" ∈ TB := tb_of (i := 394) (by decide +kernel) rfl
theorem sl_5_68 : Cond.fieldLink RX5 68 "RollingCodes$Reader" "GATE_LEAST" "[I" ∈ TB := tb_of (i := 407) (by decide +kernel) rfl
theorem sl_5_71 : Cond.fieldLink RX5 71 "RollingCodes$Reader" "GATE_MOST" "[I" ∈ TB := tb_of (i := 409) (by decide +kernel) rfl
theorem sl_5_74 : Cond.fieldLink RX5 74 "RollingCodes$Reader" "FOB_LEAST" "[I" ∈ TB := tb_of (i := 411) (by decide +kernel) rfl
theorem sl_5_77 : Cond.fieldLink RX5 77 "RollingCodes$Reader" "FOB_MOST" "[I" ∈ TB := tb_of (i := 413) (by decide +kernel) rfl
theorem yv_X0_add : YV yX0_add cX0_add 3 (some .boolean) 2 := ⟨tb_of (i := 798) (by decide +kernel) rfl, tb_of (i := 797) (by decide +kernel) rfl, tb_sel (i := 67) (by decide +kernel) rfl, tb_of (i := 10) (by decide +kernel) rfl, by decide +kernel, by decide +kernel, by decide +kernel, by decide⟩
theorem yv_X0_clear : YV yX0_clear cX0_clear 1 none 0 := ⟨tb_of (i := 457) (by decide +kernel) rfl, tb_of (i := 456) (by decide +kernel) rfl, tb_sel (i := 23) (by decide +kernel) rfl, tb_of (i := 10) (by decide +kernel) rfl, by decide +kernel, by decide +kernel, by decide +kernel, by decide⟩
theorem yv_X0_firstFalse : YV yX0_firstFalse cX0_firstFalse 3 (some .int) 1 := ⟨tb_of (i := 810) (by decide +kernel) rfl, tb_of (i := 809) (by decide +kernel) rfl, tb_sel (i := 68) (by decide +kernel) rfl, tb_of (i := 10) (by decide +kernel) rfl, by decide +kernel, by decide +kernel, by decide +kernel, by decide⟩
theorem yv_X1_next : YV yX1_next cX1_next 2 (some .int) 1 := ⟨tb_of (i := 669) (by decide +kernel) rfl, tb_of (i := 668) (by decide +kernel) rfl, tb_sel (i := 53) (by decide +kernel) rfl, tb_of (i := 11) (by decide +kernel) rfl, by decide +kernel, by decide +kernel, by decide +kernel, by decide⟩
theorem yv_X2_isImage : YV yX2_isImage cX2_isImage 2 (some .boolean) 1 := ⟨tb_of (i := 822) (by decide +kernel) rfl, tb_of (i := 821) (by decide +kernel) rfl, tb_sel (i := 69) (by decide +kernel) rfl, tb_of (i := 7) (by decide +kernel) rfl, by decide +kernel, by decide +kernel, by decide +kernel, by decide⟩
theorem yv_X2_isTaken : YV yX2_isTaken cX2_isTaken 2 (some .boolean) 1 := ⟨tb_of (i := 835) (by decide +kernel) rfl, tb_of (i := 834) (by decide +kernel) rfl, tb_sel (i := 71) (by decide +kernel) rfl, tb_of (i := 7) (by decide +kernel) rfl, by decide +kernel, by decide +kernel, by decide +kernel, by decide⟩
theorem yv_X2_take : YV yX2_take cX2_take 4 none 3 := ⟨tb_of (i := 826) (by decide +kernel) rfl, tb_of (i := 825) (by decide +kernel) rfl, tb_sel (i := 70) (by decide +kernel) rfl, tb_of (i := 7) (by decide +kernel) rfl, by decide +kernel, by decide +kernel, by decide +kernel, by decide⟩
theorem yv_X2_bringBack : YV yX2_bringBack cX2_bringBack 4 none 3 := ⟨tb_of (i := 839) (by decide +kernel) rfl, tb_of (i := 838) (by decide +kernel) rfl, tb_sel (i := 72) (by decide +kernel) rfl, tb_of (i := 7) (by decide +kernel) rfl, by decide +kernel, by decide +kernel, by decide +kernel, by decide⟩
theorem yv_X2_forget : YV yX2_forget cX2_forget 2 none 0 := ⟨tb_of (i := 453) (by decide +kernel) rfl, tb_of (i := 452) (by decide +kernel) rfl, tb_sel (i := 22) (by decide +kernel) rfl, tb_of (i := 7) (by decide +kernel) rfl, by decide +kernel, by decide +kernel, by decide +kernel, by decide⟩
theorem yv_X3_remember : YV yX3_remember cX3_remember 2 none 1 := ⟨tb_of (i := 618) (by decide +kernel) rfl, tb_of (i := 617) (by decide +kernel) rfl, tb_sel (i := 49) (by decide +kernel) rfl, tb_of (i := 6) (by decide +kernel) rfl, by decide +kernel, by decide +kernel, by decide +kernel, by decide⟩
theorem yv_X3_takeBack : YV yX3_takeBack cX3_takeBack 2 none 1 := ⟨tb_of (i := 681) (by decide +kernel) rfl, tb_of (i := 680) (by decide +kernel) rfl, tb_sel (i := 54) (by decide +kernel) rfl, tb_of (i := 6) (by decide +kernel) rfl, by decide +kernel, by decide +kernel, by decide +kernel, by decide⟩
theorem yv_X3_forget : YV yX3_forget cX3_forget 1 none 0 := ⟨tb_of (i := 449) (by decide +kernel) rfl, tb_of (i := 448) (by decide +kernel) rfl, tb_sel (i := 21) (by decide +kernel) rfl, tb_of (i := 6) (by decide +kernel) rfl, by decide +kernel, by decide +kernel, by decide +kernel, by decide⟩
theorem yv_X4_clear : YV yX4_clear cX4_clear 1 none 0 := ⟨tb_of (i := 371) (by decide +kernel) rfl, tb_of (i := 370) (by decide +kernel) rfl, tb_sel (i := 6) (by decide +kernel) rfl, tb_of (i := 4) (by decide +kernel) rfl, by decide +kernel, by decide +kernel, by decide +kernel, by decide⟩
theorem yv_X4_copyFrom : YV yX4_copyFrom cX4_copyFrom 2 none 1 := ⟨tb_of (i := 442) (by decide +kernel) rfl, tb_of (i := 441) (by decide +kernel) rfl, tb_sel (i := 20) (by decide +kernel) rfl, tb_of (i := 4) (by decide +kernel) rfl, by decide +kernel, by decide +kernel, by decide +kernel, by decide⟩
theorem yv_X4_isGate : YV yX4_isGate cX4_isGate 2 (some .boolean) 1 := ⟨tb_of (i := 582) (by decide +kernel) rfl, tb_of (i := 581) (by decide +kernel) rfl, tb_sel (i := 45) (by decide +kernel) rfl, tb_of (i := 4) (by decide +kernel) rfl, by decide +kernel, by decide +kernel, by decide +kernel, by decide⟩
theorem yv_X4_isFob : YV yX4_isFob cX4_isFob 2 (some .boolean) 1 := ⟨tb_of (i := 477) (by decide +kernel) rfl, tb_of (i := 476) (by decide +kernel) rfl, tb_sel (i := 25) (by decide +kernel) rfl, tb_of (i := 4) (by decide +kernel) rfl, by decide +kernel, by decide +kernel, by decide +kernel, by decide⟩
theorem yv_X4_sendings : YV yX4_sendings cX4_sendings 2 (some .int) 1 := ⟨tb_of (i := 503) (by decide +kernel) rfl, tb_of (i := 502) (by decide +kernel) rfl, tb_sel (i := 31) (by decide +kernel) rfl, tb_of (i := 4) (by decide +kernel) rfl, by decide +kernel, by decide +kernel, by decide +kernel, by decide⟩
theorem yv_X4_stride : YV yX4_stride cX4_stride 2 (some .int) 1 := ⟨tb_of (i := 511) (by decide +kernel) rfl, tb_of (i := 510) (by decide +kernel) rfl, tb_sel (i := 33) (by decide +kernel) rfl, tb_of (i := 4) (by decide +kernel) rfl, by decide +kernel, by decide +kernel, by decide +kernel, by decide⟩
theorem yv_X4_leastAhead : YV yX4_leastAhead cX4_leastAhead 2 (some .int) 1 := ⟨tb_of (i := 561) (by decide +kernel) rfl, tb_of (i := 560) (by decide +kernel) rfl, tb_sel (i := 43) (by decide +kernel) rfl, tb_of (i := 4) (by decide +kernel) rfl, by decide +kernel, by decide +kernel, by decide +kernel, by decide⟩
theorem yv_X4_mostAhead : YV yX4_mostAhead cX4_mostAhead 2 (some .int) 1 := ⟨tb_of (i := 557) (by decide +kernel) rfl, tb_of (i := 556) (by decide +kernel) rfl, tb_sel (i := 42) (by decide +kernel) rfl, tb_of (i := 4) (by decide +kernel) rfl, by decide +kernel, by decide +kernel, by decide +kernel, by decide⟩
theorem yv_X4_addEar : YV yX4_addEar cX4_addEar 2 none 1 := ⟨tb_of (i := 426) (by decide +kernel) rfl, tb_of (i := 425) (by decide +kernel) rfl, tb_sel (i := 16) (by decide +kernel) rfl, tb_of (i := 4) (by decide +kernel) rfl, by decide +kernel, by decide +kernel, by decide +kernel, by decide⟩
theorem yv_X4_addGate : YV yX4_addGate cX4_addGate 2 none 1 := ⟨tb_of (i := 430) (by decide +kernel) rfl, tb_of (i := 429) (by decide +kernel) rfl, tb_sel (i := 17) (by decide +kernel) rfl, tb_of (i := 4) (by decide +kernel) rfl, by decide +kernel, by decide +kernel, by decide +kernel, by decide⟩
theorem yv_X4_addFob : YV yX4_addFob cX4_addFob 2 none 1 := ⟨tb_of (i := 434) (by decide +kernel) rfl, tb_of (i := 433) (by decide +kernel) rfl, tb_sel (i := 18) (by decide +kernel) rfl, tb_of (i := 4) (by decide +kernel) rfl, by decide +kernel, by decide +kernel, by decide +kernel, by decide⟩
theorem yv_X5_read : YV yX5_read cX5_read 3 none 1 := ⟨tb_of (i := 367) (by decide +kernel) rfl, tb_of (i := 366) (by decide +kernel) rfl, tb_sel (i := 5) (by decide +kernel) rfl, tb_of (i := 3) (by decide +kernel) rfl, by decide +kernel, by decide +kernel, by decide +kernel, by decide⟩
theorem yv_X5_readClause : YV yX5_readClause cX5_readClause 4 none 1 := ⟨tb_of (i := 383) (by decide +kernel) rfl, tb_of (i := 382) (by decide +kernel) rfl, tb_sel (i := 9) (by decide +kernel) rfl, tb_of (i := 3) (by decide +kernel) rfl, by decide +kernel, by decide +kernel, by decide +kernel, by decide⟩
theorem yv_X5_faultOfWord : YV yX5_faultOfWord cX5_faultOfWord 3 (some .int) 1 := ⟨tb_of (i := 387) (by decide +kernel) rfl, tb_of (i := 386) (by decide +kernel) rfl, tb_sel (i := 10) (by decide +kernel) rfl, tb_of (i := 3) (by decide +kernel) rfl, by decide +kernel, by decide +kernel, by decide +kernel, by decide⟩
theorem yv_X5_readNumbers : YV yX5_readNumbers cX5_readNumbers 5 none 3 := ⟨tb_of (i := 399) (by decide +kernel) rfl, tb_of (i := 398) (by decide +kernel) rfl, tb_sel (i := 12) (by decide +kernel) rfl, tb_of (i := 3) (by decide +kernel) rfl, by decide +kernel, by decide +kernel, by decide +kernel, by decide⟩
theorem yv_X5_readNumber : YV yX5_readNumber cX5_readNumber 7 (some .int) 3 := ⟨tb_of (i := 403) (by decide +kernel) rfl, tb_of (i := 402) (by decide +kernel) rfl, tb_sel (i := 13) (by decide +kernel) rfl, tb_of (i := 3) (by decide +kernel) rfl, by decide +kernel, by decide +kernel, by decide +kernel, by decide⟩
theorem yv_X5_readEnd : YV yX5_readEnd cX5_readEnd 2 none 1 := ⟨tb_of (i := 418) (by decide +kernel) rfl, tb_of (i := 417) (by decide +kernel) rfl, tb_sel (i := 14) (by decide +kernel) rfl, tb_of (i := 3) (by decide +kernel) rfl, by decide +kernel, by decide +kernel, by decide +kernel, by decide⟩
theorem yv_X5_enter : YV yX5_enter cX5_enter 2 none 1 := ⟨tb_of (i := 422) (by decide +kernel) rfl, tb_of (i := 421) (by decide +kernel) rfl, tb_sel (i := 15) (by decide +kernel) rfl, tb_of (i := 3) (by decide +kernel) rfl, by decide +kernel, by decide +kernel, by decide +kernel, by decide⟩
theorem yv_X5_skipBlanks : YV yX5_skipBlanks cX5_skipBlanks 2 none 1 := ⟨tb_of (i := 375) (by decide +kernel) rfl, tb_of (i := 374) (by decide +kernel) rfl, tb_sel (i := 7) (by decide +kernel) rfl, tb_of (i := 3) (by decide +kernel) rfl, by decide +kernel, by decide +kernel, by decide +kernel, by decide⟩
theorem yv_X5_fail : YV yX5_fail cX5_fail 3 none 2 := ⟨tb_of (i := 391) (by decide +kernel) rfl, tb_of (i := 390) (by decide +kernel) rfl, tb_sel (i := 11) (by decide +kernel) rfl, tb_of (i := 3) (by decide +kernel) rfl, by decide +kernel, by decide +kernel, by decide +kernel, by decide⟩
theorem ys_X5_isFigure : YS yX5_isFigure cX5_isFigure 1 (some .boolean) 1 := ⟨tb_of (i := 406) (by decide +kernel) rfl, tb_of (i := 405) (by decide +kernel) rfl, tb_of (i := 3) (by decide +kernel) rfl, by decide +kernel, by decide +kernel, by decide +kernel, by decide⟩
theorem yv_X6_find : YV yX6_find cX6_find 4 (some .int) 1 := ⟨tb_of (i := 716) (by decide +kernel) rfl, tb_of (i := 715) (by decide +kernel) rfl, tb_sel (i := 57) (by decide +kernel) rfl, tb_of (i := 8) (by decide +kernel) rfl, by decide +kernel, by decide +kernel, by decide +kernel, by decide⟩
theorem ys_X6_canEnd : YS yX6_canEnd cX6_canEnd 9 (some .boolean) 4 := ⟨tb_of (i := 724) (by decide +kernel) rfl, tb_of (i := 723) (by decide +kernel) rfl, tb_of (i := 8) (by decide +kernel) rfl, by decide +kernel, by decide +kernel, by decide +kernel, by decide⟩
theorem yv_X7_begin : YV yX7_begin cX7_begin 3 none 0 := ⟨tb_of (i := 300) (by decide +kernel) rfl, tb_of (i := 299) (by decide +kernel) rfl, tb_sel (i := 0) (by decide +kernel) rfl, tb_of (i := 5) (by decide +kernel) rfl, by decide +kernel, by decide +kernel, by decide +kernel, by decide⟩
theorem yv_X7_copyFrom : YV yX7_copyFrom cX7_copyFrom 2 none 1 := ⟨tb_of (i := 490) (by decide +kernel) rfl, tb_of (i := 489) (by decide +kernel) rfl, tb_sel (i := 28) (by decide +kernel) rfl, tb_of (i := 5) (by decide +kernel) rfl, by decide +kernel, by decide +kernel, by decide +kernel, by decide⟩
theorem yv_X7_lastOf : YV yX7_lastOf cX7_lastOf 3 (some .int) 2 := ⟨tb_of (i := 553) (by decide +kernel) rfl, tb_of (i := 552) (by decide +kernel) rfl, tb_sel (i := 41) (by decide +kernel) rfl, tb_of (i := 5) (by decide +kernel) rfl, by decide +kernel, by decide +kernel, by decide +kernel, by decide⟩
theorem yv_X7_taught : YV yX7_taught cX7_taught 3 none 2 := ⟨tb_of (i := 308) (by decide +kernel) rfl, tb_of (i := 307) (by decide +kernel) rfl, tb_sel (i := 2) (by decide +kernel) rfl, tb_of (i := 5) (by decide +kernel) rfl, by decide +kernel, by decide +kernel, by decide +kernel, by decide⟩
theorem yv_X7_isKept : YV yX7_isKept cX7_isKept 2 (some .boolean) 1 := ⟨tb_of (i := 604) (by decide +kernel) rfl, tb_of (i := 603) (by decide +kernel) rfl, tb_sel (i := 48) (by decide +kernel) rfl, tb_of (i := 5) (by decide +kernel) rfl, by decide +kernel, by decide +kernel, by decide +kernel, by decide⟩
theorem yv_X7_isNoisy : YV yX7_isNoisy cX7_isNoisy 2 (some .boolean) 1 := ⟨tb_of (i := 530) (by decide +kernel) rfl, tb_of (i := 529) (by decide +kernel) rfl, tb_sel (i := 37) (by decide +kernel) rfl, tb_of (i := 5) (by decide +kernel) rfl, by decide +kernel, by decide +kernel, by decide +kernel, by decide⟩
theorem yv_X7_turnNoise : YV yX7_turnNoise cX7_turnNoise 2 none 1 := ⟨tb_of (i := 640) (by decide +kernel) rfl, tb_of (i := 639) (by decide +kernel) rfl, tb_sel (i := 50) (by decide +kernel) rfl, tb_of (i := 5) (by decide +kernel) rfl, by decide +kernel, by decide +kernel, by decide +kernel, by decide⟩
theorem yv_X7_allOpenings : YV yX7_allOpenings cX7_allOpenings 3 (some .int) 0 := ⟨tb_of (i := 469) (by decide +kernel) rfl, tb_of (i := 468) (by decide +kernel) rfl, tb_sel (i := 24) (by decide +kernel) rfl, tb_of (i := 5) (by decide +kernel) rfl, by decide +kernel, by decide +kernel, by decide +kernel, by decide⟩
theorem yv_X7_codeAhead : YV yX7_codeAhead cX7_codeAhead 3 (some .int) 2 := ⟨tb_of (i := 515) (by decide +kernel) rfl, tb_of (i := 514) (by decide +kernel) rfl, tb_sel (i := 34) (by decide +kernel) rfl, tb_of (i := 5) (by decide +kernel) rfl, by decide +kernel, by decide +kernel, by decide +kernel, by decide⟩
theorem yv_X7_pressedFrom : YV yX7_pressedFrom cX7_pressedFrom 7 (some .int) 2 := ⟨tb_of (i := 495) (by decide +kernel) rfl, tb_of (i := 494) (by decide +kernel) rfl, tb_sel (i := 29) (by decide +kernel) rfl, tb_of (i := 5) (by decide +kernel) rfl, by decide +kernel, by decide +kernel, by decide +kernel, by decide⟩
theorem yv_X7_pressedUnheard : YV yX7_pressedUnheard cX7_pressedUnheard 3 none 2 := ⟨tb_of (i := 700) (by decide +kernel) rfl, tb_of (i := 699) (by decide +kernel) rfl, tb_sel (i := 55) (by decide +kernel) rfl, tb_of (i := 5) (by decide +kernel) rfl, by decide +kernel, by decide +kernel, by decide +kernel, by decide⟩
theorem yv_X7_opensBeside : YV yX7_opensBeside cX7_opensBeside 5 (some .boolean) 2 := ⟨tb_of (i := 704) (by decide +kernel) rfl, tb_of (i := 703) (by decide +kernel) rfl, tb_sel (i := 56) (by decide +kernel) rfl, tb_of (i := 5) (by decide +kernel) rfl, by decide +kernel, by decide +kernel, by decide +kernel, by decide⟩
theorem yv_X7_sentAgain : YV yX7_sentAgain cX7_sentAgain 2 (some .int) 1 := ⟨tb_of (i := 653) (by decide +kernel) rfl, tb_of (i := 652) (by decide +kernel) rfl, tb_sel (i := 51) (by decide +kernel) rfl, tb_of (i := 5) (by decide +kernel) rfl, by decide +kernel, by decide +kernel, by decide +kernel, by decide⟩
theorem yv_X7_gatesInReach : YV yX7_gatesInReach cX7_gatesInReach 3 (some .int) 0 := ⟨tb_of (i := 721) (by decide +kernel) rfl, tb_of (i := 720) (by decide +kernel) rfl, tb_sel (i := 58) (by decide +kernel) rfl, tb_of (i := 5) (by decide +kernel) rfl, by decide +kernel, by decide +kernel, by decide +kernel, by decide⟩
theorem yv_X7_rangeNow : YV yX7_rangeNow cX7_rangeNow 3 (some .int) 1 := ⟨tb_of (i := 499) (by decide +kernel) rfl, tb_of (i := 498) (by decide +kernel) rfl, tb_sel (i := 30) (by decide +kernel) rfl, tb_of (i := 5) (by decide +kernel) rfl, by decide +kernel, by decide +kernel, by decide +kernel, by decide⟩
theorem yv_X7_nextCode : YV yX7_nextCode cX7_nextCode 2 (some .int) 1 := ⟨tb_of (i := 507) (by decide +kernel) rfl, tb_of (i := 506) (by decide +kernel) rfl, tb_sel (i := 32) (by decide +kernel) rfl, tb_of (i := 5) (by decide +kernel) rfl, by decide +kernel, by decide +kernel, by decide +kernel, by decide⟩
theorem yv_X7_isHeardAt : YV yX7_isHeardAt cX7_isHeardAt 4 (some .boolean) 3 := ⟨tb_of (i := 526) (by decide +kernel) rfl, tb_of (i := 525) (by decide +kernel) rfl, tb_sel (i := 36) (by decide +kernel) rfl, tb_of (i := 5) (by decide +kernel) rfl, by decide +kernel, by decide +kernel, by decide +kernel, by decide⟩
theorem yv_X7_heardByGates : YV yX7_heardByGates cX7_heardByGates 6 (some .int) 3 := ⟨tb_of (i := 522) (by decide +kernel) rfl, tb_of (i := 521) (by decide +kernel) rfl, tb_sel (i := 35) (by decide +kernel) rfl, tb_of (i := 5) (by decide +kernel) rfl, by decide +kernel, by decide +kernel, by decide +kernel, by decide⟩
theorem yv_X7_heardByEar : YV yX7_heardByEar cX7_heardByEar 4 none 3 := ⟨tb_of (i := 565) (by decide +kernel) rfl, tb_of (i := 564) (by decide +kernel) rfl, tb_sel (i := 44) (by decide +kernel) rfl, tb_of (i := 5) (by decide +kernel) rfl, by decide +kernel, by decide +kernel, by decide +kernel, by decide⟩
theorem yv_X7_hears : YV yX7_hears cX7_hears 7 (some .boolean) 2 := ⟨tb_of (i := 537) (by decide +kernel) rfl, tb_of (i := 536) (by decide +kernel) rfl, tb_sel (i := 38) (by decide +kernel) rfl, tb_of (i := 5) (by decide +kernel) rfl, by decide +kernel, by decide +kernel, by decide +kernel, by decide⟩
theorem yv_X7_firstAhead : YV yX7_firstAhead cX7_firstAhead 8 (some .int) 3 := ⟨tb_of (i := 549) (by decide +kernel) rfl, tb_of (i := 548) (by decide +kernel) rfl, tb_sel (i := 40) (by decide +kernel) rfl, tb_of (i := 5) (by decide +kernel) rfl, by decide +kernel, by decide +kernel, by decide +kernel, by decide⟩
theorem yv_X7_open : YV yX7_open cX7_open 4 none 3 := ⟨tb_of (i := 542) (by decide +kernel) rfl, tb_of (i := 541) (by decide +kernel) rfl, tb_sel (i := 39) (by decide +kernel) rfl, tb_of (i := 5) (by decide +kernel) rfl, by decide +kernel, by decide +kernel, by decide +kernel, by decide⟩
theorem yv_X7_waitFor : YV yX7_waitFor cX7_waitFor 4 none 3 := ⟨tb_of (i := 304) (by decide +kernel) rfl, tb_of (i := 303) (by decide +kernel) rfl, tb_sel (i := 1) (by decide +kernel) rfl, tb_of (i := 5) (by decide +kernel) rfl, by decide +kernel, by decide +kernel, by decide +kernel, by decide⟩
theorem yv_X7_waitsAs : YV yX7_waitsAs cX7_waitsAs 3 (some .boolean) 1 := ⟨tb_of (i := 729) (by decide +kernel) rfl, tb_of (i := 728) (by decide +kernel) rfl, tb_sel (i := 59) (by decide +kernel) rfl, tb_of (i := 5) (by decide +kernel) rfl, by decide +kernel, by decide +kernel, by decide +kernel, by decide⟩
theorem yv_X8_add : YV yX8_add cX8_add 4 (some .boolean) 2 := ⟨tb_of (i := 759) (by decide +kernel) rfl, tb_of (i := 758) (by decide +kernel) rfl, tb_sel (i := 61) (by decide +kernel) rfl, tb_of (i := 9) (by decide +kernel) rfl, by decide +kernel, by decide +kernel, by decide +kernel, by decide⟩
theorem yv_X8_clear : YV yX8_clear cX8_clear 2 none 0 := ⟨tb_of (i := 312) (by decide +kernel) rfl, tb_of (i := 311) (by decide +kernel) rfl, tb_sel (i := 3) (by decide +kernel) rfl, tb_of (i := 9) (by decide +kernel) rfl, by decide +kernel, by decide +kernel, by decide +kernel, by decide⟩
theorem yv_X8_fitting : YV yX8_fitting cX8_fitting 3 (some .int) 0 := ⟨tb_of (i := 768) (by decide +kernel) rfl, tb_of (i := 767) (by decide +kernel) rfl, tb_sel (i := 62) (by decide +kernel) rfl, tb_of (i := 9) (by decide +kernel) rfl, by decide +kernel, by decide +kernel, by decide +kernel, by decide⟩
theorem yv_X8_leastFitting : YV yX8_leastFitting cX8_leastFitting 2 (some .int) 0 := ⟨tb_of (i := 772) (by decide +kernel) rfl, tb_of (i := 771) (by decide +kernel) rfl, tb_sel (i := 63) (by decide +kernel) rfl, tb_of (i := 9) (by decide +kernel) rfl, by decide +kernel, by decide +kernel, by decide +kernel, by decide⟩
theorem yv_X8_greatestFitting : YV yX8_greatestFitting cX8_greatestFitting 2 (some .int) 0 := ⟨tb_of (i := 776) (by decide +kernel) rfl, tb_of (i := 775) (by decide +kernel) rfl, tb_sel (i := 64) (by decide +kernel) rfl, tb_of (i := 9) (by decide +kernel) rfl, by decide +kernel, by decide +kernel, by decide +kernel, by decide⟩
theorem yv_X8_bestQuestion : YV yX8_bestQuestion cX8_bestQuestion 5 (some .int) 0 := ⟨tb_of (i := 784) (by decide +kernel) rfl, tb_of (i := 783) (by decide +kernel) rfl, tb_sel (i := 65) (by decide +kernel) rfl, tb_of (i := 9) (by decide +kernel) rfl, by decide +kernel, by decide +kernel, by decide +kernel, by decide⟩
theorem yv_X8_greatestPart : YV yX8_greatestPart cX8_greatestPart 5 (some .int) 1 := ⟨tb_of (i := 789) (by decide +kernel) rfl, tb_of (i := 788) (by decide +kernel) rfl, tb_sel (i := 66) (by decide +kernel) rfl, tb_of (i := 9) (by decide +kernel) rfl, by decide +kernel, by decide +kernel, by decide +kernel, by decide⟩
theorem yv_X9_add : YV yX9_add cX9_add 2 (some .boolean) 1 := ⟨tb_of (i := 358) (by decide +kernel) rfl, tb_of (i := 357) (by decide +kernel) rfl, tb_sel (i := 4) (by decide +kernel) rfl, tb_of (i := 2) (by decide +kernel) rfl, by decide +kernel, by decide +kernel, by decide +kernel, by decide⟩
theorem yv_X9_clear : YV yX9_clear cX9_clear 1 none 0 := ⟨tb_of (i := 438) (by decide +kernel) rfl, tb_of (i := 437) (by decide +kernel) rfl, tb_sel (i := 19) (by decide +kernel) rfl, tb_of (i := 2) (by decide +kernel) rfl, by decide +kernel, by decide +kernel, by decide +kernel, by decide⟩
theorem yv_X9_letterAt : YV yX9_letterAt cX9_letterAt 2 (some .int) 1 := ⟨tb_of (i := 379) (by decide +kernel) rfl, tb_of (i := 378) (by decide +kernel) rfl, tb_sel (i := 8) (by decide +kernel) rfl, tb_of (i := 2) (by decide +kernel) rfl, by decide +kernel, by decide +kernel, by decide +kernel, by decide⟩
theorem yv_X10_feed : YV yX10_feed cX10_feed 2 (some .int) 1 := ⟨tb_of (i := 353) (by decide +kernel) rfl, tb_of (i := 351) (by decide +kernel) rfl, tb_of (i := 352) (by decide +kernel) rfl, tb_of (i := 1) (by decide +kernel) rfl, by decide +kernel, by decide +kernel, by decide +kernel, by decide⟩
theorem yv_X10_street : YV yX10_street cX10_street 1 (some .int) 0 := ⟨tb_of (i := 363) (by decide +kernel) rfl, tb_of (i := 361) (by decide +kernel) rfl, tb_of (i := 362) (by decide +kernel) rfl, tb_of (i := 1) (by decide +kernel) rfl, by decide +kernel, by decide +kernel, by decide +kernel, by decide⟩
theorem yv_X10_fault : YV yX10_fault cX10_fault 1 (some .int) 0 := ⟨tb_of (i := 461) (by decide +kernel) rfl, tb_of (i := 459) (by decide +kernel) rfl, tb_of (i := 460) (by decide +kernel) rfl, tb_of (i := 1) (by decide +kernel) rfl, by decide +kernel, by decide +kernel, by decide +kernel, by decide⟩
theorem yv_X10_told : YV yX10_told cX10_told 2 (some .int) 1 := ⟨tb_of (i := 465) (by decide +kernel) rfl, tb_of (i := 463) (by decide +kernel) rfl, tb_of (i := 464) (by decide +kernel) rfl, tb_of (i := 1) (by decide +kernel) rfl, by decide +kernel, by decide +kernel, by decide +kernel, by decide⟩
theorem yv_X10_fob : YV yX10_fob cX10_fob 3 (some .int) 2 := ⟨tb_of (i := 473) (by decide +kernel) rfl, tb_of (i := 471) (by decide +kernel) rfl, tb_of (i := 472) (by decide +kernel) rfl, tb_of (i := 1) (by decide +kernel) rfl, by decide +kernel, by decide +kernel, by decide +kernel, by decide⟩
theorem yv_X10_gate : YV yX10_gate cX10_gate 3 (some .int) 2 := ⟨tb_of (i := 578) (by decide +kernel) rfl, tb_of (i := 576) (by decide +kernel) rfl, tb_of (i := 577) (by decide +kernel) rfl, tb_of (i := 1) (by decide +kernel) rfl, by decide +kernel, by decide +kernel, by decide +kernel, by decide⟩
theorem yv_X10_last : YV yX10_last cX10_last 3 (some .int) 2 := ⟨tb_of (i := 591) (by decide +kernel) rfl, tb_of (i := 589) (by decide +kernel) rfl, tb_of (i := 590) (by decide +kernel) rfl, tb_of (i := 1) (by decide +kernel) rfl, by decide +kernel, by decide +kernel, by decide +kernel, by decide⟩
theorem yv_X10_kept : YV yX10_kept cX10_kept 2 (some .int) 1 := ⟨tb_of (i := 600) (by decide +kernel) rfl, tb_of (i := 598) (by decide +kernel) rfl, tb_of (i := 599) (by decide +kernel) rfl, tb_of (i := 1) (by decide +kernel) rfl, by decide +kernel, by decide +kernel, by decide +kernel, by decide⟩
theorem yv_X10_code : YV yX10_code cX10_code 3 (some .int) 2 := ⟨tb_of (i := 608) (by decide +kernel) rfl, tb_of (i := 606) (by decide +kernel) rfl, tb_of (i := 607) (by decide +kernel) rfl, tb_of (i := 1) (by decide +kernel) rfl, by decide +kernel, by decide +kernel, by decide +kernel, by decide⟩
theorem yv_X10_press : YV yX10_press cX10_press 2 (some .int) 1 := ⟨tb_of (i := 613) (by decide +kernel) rfl, tb_of (i := 611) (by decide +kernel) rfl, tb_of (i := 612) (by decide +kernel) rfl, tb_of (i := 1) (by decide +kernel) rfl, by decide +kernel, by decide +kernel, by decide +kernel, by decide⟩
theorem yv_X10_step : YV yX10_step cX10_step 4 (some .int) 2 := ⟨tb_of (i := 624) (by decide +kernel) rfl, tb_of (i := 622) (by decide +kernel) rfl, tb_of (i := 623) (by decide +kernel) rfl, tb_of (i := 1) (by decide +kernel) rfl, by decide +kernel, by decide +kernel, by decide +kernel, by decide⟩
theorem yv_X10_earTo : YV yX10_earTo cX10_earTo 3 (some .int) 1 := ⟨tb_of (i := 631) (by decide +kernel) rfl, tb_of (i := 629) (by decide +kernel) rfl, tb_of (i := 630) (by decide +kernel) rfl, tb_of (i := 1) (by decide +kernel) rfl, by decide +kernel, by decide +kernel, by decide +kernel, by decide⟩
theorem yv_X10_noise : YV yX10_noise cX10_noise 3 (some .int) 2 := ⟨tb_of (i := 635) (by decide +kernel) rfl, tb_of (i := 633) (by decide +kernel) rfl, tb_of (i := 634) (by decide +kernel) rfl, tb_of (i := 1) (by decide +kernel) rfl, by decide +kernel, by decide +kernel, by decide +kernel, by decide⟩
theorem yv_X10_teach : YV yX10_teach cX10_teach 3 (some .int) 2 := ⟨tb_of (i := 644) (by decide +kernel) rfl, tb_of (i := 642) (by decide +kernel) rfl, tb_of (i := 643) (by decide +kernel) rfl, tb_of (i := 1) (by decide +kernel) rfl, by decide +kernel, by decide +kernel, by decide +kernel, by decide⟩
theorem yv_X10_again : YV yX10_again cX10_again 2 (some .int) 1 := ⟨tb_of (i := 649) (by decide +kernel) rfl, tb_of (i := 647) (by decide +kernel) rfl, tb_of (i := 648) (by decide +kernel) rfl, tb_of (i := 1) (by decide +kernel) rfl, by decide +kernel, by decide +kernel, by decide +kernel, by decide⟩
theorem yv_X10_fill : YV yX10_fill cX10_fill 3 (some .int) 1 := ⟨tb_of (i := 657) (by decide +kernel) rfl, tb_of (i := 655) (by decide +kernel) rfl, tb_of (i := 656) (by decide +kernel) rfl, tb_of (i := 1) (by decide +kernel) rfl, by decide +kernel, by decide +kernel, by decide +kernel, by decide⟩
theorem yv_X10_drift : YV yX10_drift cX10_drift 3 (some .int) 1 := ⟨tb_of (i := 661) (by decide +kernel) rfl, tb_of (i := 659) (by decide +kernel) rfl, tb_of (i := 660) (by decide +kernel) rfl, tb_of (i := 1) (by decide +kernel) rfl, by decide +kernel, by decide +kernel, by decide +kernel, by decide⟩
theorem yv_X10_undo : YV yX10_undo cX10_undo 1 (some .int) 0 := ⟨tb_of (i := 677) (by decide +kernel) rfl, tb_of (i := 675) (by decide +kernel) rfl, tb_of (i := 676) (by decide +kernel) rfl, tb_of (i := 1) (by decide +kernel) rfl, by decide +kernel, by decide +kernel, by decide +kernel, by decide⟩
theorem yv_X10_wouldOpen : YV yX10_wouldOpen cX10_wouldOpen 3 (some .int) 2 := ⟨tb_of (i := 685) (by decide +kernel) rfl, tb_of (i := 683) (by decide +kernel) rfl, tb_of (i := 684) (by decide +kernel) rfl, tb_of (i := 1) (by decide +kernel) rfl, by decide +kernel, by decide +kernel, by decide +kernel, by decide⟩
theorem yv_X10_ahead : YV yX10_ahead cX10_ahead 3 (some .int) 2 := ⟨tb_of (i := 689) (by decide +kernel) rfl, tb_of (i := 687) (by decide +kernel) rfl, tb_of (i := 688) (by decide +kernel) rfl, tb_of (i := 1) (by decide +kernel) rfl, by decide +kernel, by decide +kernel, by decide +kernel, by decide⟩
theorem yv_X10_locked : YV yX10_locked cX10_locked 4 (some .int) 2 := ⟨tb_of (i := 696) (by decide +kernel) rfl, tb_of (i := 694) (by decide +kernel) rfl, tb_of (i := 695) (by decide +kernel) rfl, tb_of (i := 1) (by decide +kernel) rfl, by decide +kernel, by decide +kernel, by decide +kernel, by decide⟩
theorem yv_X10_takes : YV yX10_takes cX10_takes 4 (some .int) 2 := ⟨tb_of (i := 708) (by decide +kernel) rfl, tb_of (i := 706) (by decide +kernel) rfl, tb_of (i := 707) (by decide +kernel) rfl, tb_of (i := 1) (by decide +kernel) rfl, by decide +kernel, by decide +kernel, by decide +kernel, by decide⟩
theorem yv_X10_row : YV yX10_row cX10_row 3 (some .int) 1 := ⟨tb_of (i := 712) (by decide +kernel) rfl, tb_of (i := 710) (by decide +kernel) rfl, tb_of (i := 711) (by decide +kernel) rfl, tb_of (i := 1) (by decide +kernel) rfl, by decide +kernel, by decide +kernel, by decide +kernel, by decide⟩
theorem yv_X10_who : YV yX10_who cX10_who 4 (some .int) 1 := ⟨tb_of (i := 733) (by decide +kernel) rfl, tb_of (i := 731) (by decide +kernel) rfl, tb_of (i := 732) (by decide +kernel) rfl, tb_of (i := 1) (by decide +kernel) rfl, by decide +kernel, by decide +kernel, by decide +kernel, by decide⟩
theorem yv_X10_same : YV yX10_same cX10_same 4 (some .int) 2 := ⟨tb_of (i := 745) (by decide +kernel) rfl, tb_of (i := 743) (by decide +kernel) rfl, tb_of (i := 744) (by decide +kernel) rfl, tb_of (i := 1) (by decide +kernel) rfl, by decide +kernel, by decide +kernel, by decide +kernel, by decide⟩
theorem yv_X10_quiet : YV yX10_quiet cX10_quiet 6 (some .int) 2 := ⟨tb_of (i := 749) (by decide +kernel) rfl, tb_of (i := 747) (by decide +kernel) rfl, tb_of (i := 748) (by decide +kernel) rfl, tb_of (i := 1) (by decide +kernel) rfl, by decide +kernel, by decide +kernel, by decide +kernel, by decide⟩
theorem yv_X10_see : YV yX10_see cX10_see 3 (some .int) 2 := ⟨tb_of (i := 755) (by decide +kernel) rfl, tb_of (i := 753) (by decide +kernel) rfl, tb_of (i := 754) (by decide +kernel) rfl, tb_of (i := 1) (by decide +kernel) rfl, by decide +kernel, by decide +kernel, by decide +kernel, by decide⟩
theorem yv_X10_secrets : YV yX10_secrets cX10_secrets 2 (some .int) 1 := ⟨tb_of (i := 764) (by decide +kernel) rfl, tb_of (i := 762) (by decide +kernel) rfl, tb_of (i := 763) (by decide +kernel) rfl, tb_of (i := 1) (by decide +kernel) rfl, by decide +kernel, by decide +kernel, by decide +kernel, by decide⟩
theorem yv_X10_ask : YV yX10_ask cX10_ask 1 (some .int) 0 := ⟨tb_of (i := 780) (by decide +kernel) rfl, tb_of (i := 778) (by decide +kernel) rfl, tb_of (i := 779) (by decide +kernel) rfl, tb_of (i := 1) (by decide +kernel) rfl, by decide +kernel, by decide +kernel, by decide +kernel, by decide⟩
theorem yv_X10_write : YV yX10_write cX10_write 3 (some .int) 2 := ⟨tb_of (i := 794) (by decide +kernel) rfl, tb_of (i := 792) (by decide +kernel) rfl, tb_of (i := 793) (by decide +kernel) rfl, tb_of (i := 1) (by decide +kernel) rfl, by decide +kernel, by decide +kernel, by decide +kernel, by decide⟩
theorem yv_X10_tear : YV yX10_tear cX10_tear 2 (some .int) 0 := ⟨tb_of (i := 802) (by decide +kernel) rfl, tb_of (i := 800) (by decide +kernel) rfl, tb_of (i := 801) (by decide +kernel) rfl, tb_of (i := 1) (by decide +kernel) rfl, by decide +kernel, by decide +kernel, by decide +kernel, by decide⟩
theorem yv_X10_judge : YV yX10_judge cX10_judge 1 (some .int) 0 := ⟨tb_of (i := 806) (by decide +kernel) rfl, tb_of (i := 804) (by decide +kernel) rfl, tb_of (i := 805) (by decide +kernel) rfl, tb_of (i := 1) (by decide +kernel) rfl, by decide +kernel, by decide +kernel, by decide +kernel, by decide⟩
theorem yv_X10_seed : YV yX10_seed cX10_seed 3 (some .int) 1 := ⟨tb_of (i := 814) (by decide +kernel) rfl, tb_of (i := 812) (by decide +kernel) rfl, tb_of (i := 813) (by decide +kernel) rfl, tb_of (i := 1) (by decide +kernel) rfl, by decide +kernel, by decide +kernel, by decide +kernel, by decide⟩
theorem yv_X10_keep : YV yX10_keep cX10_keep 2 (some .int) 1 := ⟨tb_of (i := 818) (by decide +kernel) rfl, tb_of (i := 816) (by decide +kernel) rfl, tb_of (i := 817) (by decide +kernel) rfl, tb_of (i := 1) (by decide +kernel) rfl, by decide +kernel, by decide +kernel, by decide +kernel, by decide⟩
theorem yv_X10_goBack : YV yX10_goBack cX10_goBack 2 (some .int) 1 := ⟨tb_of (i := 831) (by decide +kernel) rfl, tb_of (i := 829) (by decide +kernel) rfl, tb_of (i := 830) (by decide +kernel) rfl, tb_of (i := 1) (by decide +kernel) rfl, by decide +kernel, by decide +kernel, by decide +kernel, by decide⟩
theorem ys_X10_isPlace : YS yX10_isPlace cX10_isPlace 1 (some .boolean) 1 := ⟨tb_of (i := 627) (by decide +kernel) rfl, tb_of (i := 626) (by decide +kernel) rfl, tb_of (i := 1) (by decide +kernel) rfl, by decide +kernel, by decide +kernel, by decide +kernel, by decide⟩
theorem ys_X10_isCode : YS yX10_isCode cX10_isCode 1 (some .boolean) 1 := ⟨tb_of (i := 736) (by decide +kernel) rfl, tb_of (i := 735) (by decide +kernel) rfl, tb_of (i := 1) (by decide +kernel) rfl, by decide +kernel, by decide +kernel, by decide +kernel, by decide⟩
theorem ys_X10_codeOf : YS yX10_codeOf cX10_codeOf 2 (some .int) 2 := ⟨tb_of (i := 518) (by decide +kernel) rfl, tb_of (i := 517) (by decide +kernel) rfl, tb_of (i := 1) (by decide +kernel) rfl, by decide +kernel, by decide +kernel, by decide +kernel, by decide⟩
theorem yv_X10_areKnown : YV yX10_areKnown cX10_areKnown 3 (some .boolean) 2 := ⟨tb_of (i := 595) (by decide +kernel) rfl, tb_of (i := 594) (by decide +kernel) rfl, tb_sel (i := 47) (by decide +kernel) rfl, tb_of (i := 1) (by decide +kernel) rfl, by decide +kernel, by decide +kernel, by decide +kernel, by decide⟩
theorem yv_X10_opensFrom : YV yX10_opensFrom cX10_opensFrom 3 (some .int) 2 := ⟨tb_of (i := 486) (by decide +kernel) rfl, tb_of (i := 485) (by decide +kernel) rfl, tb_sel (i := 27) (by decide +kernel) rfl, tb_of (i := 1) (by decide +kernel) rfl, by decide +kernel, by decide +kernel, by decide +kernel, by decide⟩
theorem yv_X10_bestPlace : YV yX10_bestPlace cX10_bestPlace 6 (some .int) 1 := ⟨tb_of (i := 482) (by decide +kernel) rfl, tb_of (i := 481) (by decide +kernel) rfl, tb_sel (i := 26) (by decide +kernel) rfl, tb_of (i := 1) (by decide +kernel) rfl, by decide +kernel, by decide +kernel, by decide +kernel, by decide⟩
theorem yv_X10_usefulAt : YV yX10_usefulAt cX10_usefulAt 4 (some .int) 1 := ⟨tb_of (i := 586) (by decide +kernel) rfl, tb_of (i := 585) (by decide +kernel) rfl, tb_sel (i := 46) (by decide +kernel) rfl, tb_of (i := 1) (by decide +kernel) rfl, by decide +kernel, by decide +kernel, by decide +kernel, by decide⟩
theorem yv_X10_couldSend : YV yX10_couldSend cX10_couldSend 4 (some .boolean) 2 := ⟨tb_of (i := 740) (by decide +kernel) rfl, tb_of (i := 739) (by decide +kernel) rfl, tb_sel (i := 60) (by decide +kernel) rfl, tb_of (i := 1) (by decide +kernel) rfl, by decide +kernel, by decide +kernel, by decide +kernel, by decide⟩
theorem yv_X10_passHour : YV yX10_passHour cX10_passHour 3 none 0 := ⟨tb_of (i := 665) (by decide +kernel) rfl, tb_of (i := 664) (by decide +kernel) rfl, tb_sel (i := 52) (by decide +kernel) rfl, tb_of (i := 1) (by decide +kernel) rfl, by decide +kernel, by decide +kernel, by decide +kernel, by decide⟩
theorem ys_X11_in : YS yX11_in cX11_in 6 (some .boolean) 3 := ⟨tb_of (i := 992) (by decide +kernel) rfl, tb_of (i := 991) (by decide +kernel) rfl, tb_of (i := 12) (by decide +kernel) rfl, by decide +kernel, by decide +kernel, by decide +kernel, by decide⟩
theorem ys_X11_has : YS yX11_has cX11_has 2 (some .boolean) 2 := ⟨tb_of (i := 1103) (by decide +kernel) rfl, tb_of (i := 1102) (by decide +kernel) rfl, tb_of (i := 12) (by decide +kernel) rfl, by decide +kernel, by decide +kernel, by decide +kernel, by decide⟩
theorem ys_X11_bits : YS yX11_bits cX11_bits 3 (some .int) 1 := ⟨tb_of (i := 1133) (by decide +kernel) rfl, tb_of (i := 1132) (by decide +kernel) rfl, tb_of (i := 12) (by decide +kernel) rfl, by decide +kernel, by decide +kernel, by decide +kernel, by decide⟩
theorem yv_X11_isFob : YV yX11_isFob cX11_isFob 2 (some .boolean) 1 := ⟨tb_of (i := 1071) (by decide +kernel) rfl, tb_of (i := 1070) (by decide +kernel) rfl, tb_sel (i := 84) (by decide +kernel) rfl, tb_of (i := 12) (by decide +kernel) rfl, by decide +kernel, by decide +kernel, by decide +kernel, by decide⟩
theorem yv_X11_isGate : YV yX11_isGate cX11_isGate 2 (some .boolean) 1 := ⟨tb_of (i := 1141) (by decide +kernel) rfl, tb_of (i := 1140) (by decide +kernel) rfl, tb_sel (i := 98) (by decide +kernel) rfl, tb_of (i := 12) (by decide +kernel) rfl, by decide +kernel, by decide +kernel, by decide +kernel, by decide⟩
theorem yv_X11_feed : YV yX11_feed cX11_feed 2 (some .int) 1 := ⟨tb_of (i := 988) (by decide +kernel) rfl, tb_of (i := 986) (by decide +kernel) rfl, tb_of (i := 987) (by decide +kernel) rfl, tb_of (i := 12) (by decide +kernel) rfl, by decide +kernel, by decide +kernel, by decide +kernel, by decide⟩
theorem yv_X11_here : YV yX11_here cX11_here 1 (some .int) 0 := ⟨tb_of (i := 1002) (by decide +kernel) rfl, tb_of (i := 1001) (by decide +kernel) rfl, tb_sel (i := 73) (by decide +kernel) rfl, tb_of (i := 12) (by decide +kernel) rfl, by decide +kernel, by decide +kernel, by decide +kernel, by decide⟩
theorem yv_X11_fails : YV yX11_fails cX11_fails 3 (some .int) 2 := ⟨tb_of (i := 1010) (by decide +kernel) rfl, tb_of (i := 1009) (by decide +kernel) rfl, tb_sel (i := 75) (by decide +kernel) rfl, tb_of (i := 12) (by decide +kernel) rfl, by decide +kernel, by decide +kernel, by decide +kernel, by decide⟩
theorem yv_X11_takeNumber : YV yX11_takeNumber cX11_takeNumber 5 (some .int) 2 := ⟨tb_of (i := 1022) (by decide +kernel) rfl, tb_of (i := 1021) (by decide +kernel) rfl, tb_sel (i := 78) (by decide +kernel) rfl, tb_of (i := 12) (by decide +kernel) rfl, by decide +kernel, by decide +kernel, by decide +kernel, by decide⟩
theorem yv_X11_into : YV yX11_into cX11_into 6 (some .int) 4 := ⟨tb_of (i := 1018) (by decide +kernel) rfl, tb_of (i := 1017) (by decide +kernel) rfl, tb_sel (i := 77) (by decide +kernel) rfl, tb_of (i := 12) (by decide +kernel) rfl, by decide +kernel, by decide +kernel, by decide +kernel, by decide⟩
theorem yv_X11_takeEar : YV yX11_takeEar cX11_takeEar 2 (some .int) 0 := ⟨tb_of (i := 1014) (by decide +kernel) rfl, tb_of (i := 1013) (by decide +kernel) rfl, tb_sel (i := 76) (by decide +kernel) rfl, tb_of (i := 12) (by decide +kernel) rfl, by decide +kernel, by decide +kernel, by decide +kernel, by decide⟩
theorem yv_X11_takeGate : YV yX11_takeGate cX11_takeGate 3 (some .int) 0 := ⟨tb_of (i := 1028) (by decide +kernel) rfl, tb_of (i := 1027) (by decide +kernel) rfl, tb_sel (i := 79) (by decide +kernel) rfl, tb_of (i := 12) (by decide +kernel) rfl, by decide +kernel, by decide +kernel, by decide +kernel, by decide⟩
theorem yv_X11_takeFob : YV yX11_takeFob cX11_takeFob 3 (some .int) 0 := ⟨tb_of (i := 1032) (by decide +kernel) rfl, tb_of (i := 1031) (by decide +kernel) rfl, tb_sel (i := 80) (by decide +kernel) rfl, tb_of (i := 12) (by decide +kernel) rfl, by decide +kernel, by decide +kernel, by decide +kernel, by decide⟩
theorem yv_X11_takeClause : YV yX11_takeClause cX11_takeClause 5 (some .int) 0 := ⟨tb_of (i := 1006) (by decide +kernel) rfl, tb_of (i := 1005) (by decide +kernel) rfl, tb_sel (i := 74) (by decide +kernel) rfl, tb_of (i := 12) (by decide +kernel) rfl, by decide +kernel, by decide +kernel, by decide +kernel, by decide⟩
theorem ys_X11_copyRow : YS yX11_copyRow cX11_copyRow 4 none 3 := ⟨tb_of (i := 1039) (by decide +kernel) rfl, tb_of (i := 1038) (by decide +kernel) rfl, tb_of (i := 12) (by decide +kernel) rfl, by decide +kernel, by decide +kernel, by decide +kernel, by decide⟩
theorem yv_X11_beginAll : YV yX11_beginAll cX11_beginAll 3 none 0 := ⟨tb_of (i := 1043) (by decide +kernel) rfl, tb_of (i := 1042) (by decide +kernel) rfl, tb_sel (i := 82) (by decide +kernel) rfl, tb_of (i := 12) (by decide +kernel) rfl, by decide +kernel, by decide +kernel, by decide +kernel, by decide⟩
theorem yv_X11_takeRead : YV yX11_takeRead cX11_takeRead 1 none 0 := ⟨tb_of (i := 1036) (by decide +kernel) rfl, tb_of (i := 1035) (by decide +kernel) rfl, tb_sel (i := 81) (by decide +kernel) rfl, tb_of (i := 12) (by decide +kernel) rfl, by decide +kernel, by decide +kernel, by decide +kernel, by decide⟩
theorem yv_X11_street : YV yX11_street cX11_street 2 (some .int) 0 := ⟨tb_of (i := 998) (by decide +kernel) rfl, tb_of (i := 996) (by decide +kernel) rfl, tb_of (i := 997) (by decide +kernel) rfl, tb_of (i := 12) (by decide +kernel) rfl, by decide +kernel, by decide +kernel, by decide +kernel, by decide⟩
theorem yv_X11_fault : YV yX11_fault cX11_fault 1 (some .int) 0 := ⟨tb_of (i := 1047) (by decide +kernel) rfl, tb_of (i := 1045) (by decide +kernel) rfl, tb_of (i := 1046) (by decide +kernel) rfl, tb_of (i := 12) (by decide +kernel) rfl, by decide +kernel, by decide +kernel, by decide +kernel, by decide⟩
theorem ys_X11_codeOf : YS yX11_codeOf cX11_codeOf 2 (some .int) 2 := ⟨tb_of (i := 1055) (by decide +kernel) rfl, tb_of (i := 1054) (by decide +kernel) rfl, tb_of (i := 12) (by decide +kernel) rfl, by decide +kernel, by decide +kernel, by decide +kernel, by decide⟩
theorem yv_X11_code : YV yX11_code cX11_code 3 (some .int) 2 := ⟨tb_of (i := 1051) (by decide +kernel) rfl, tb_of (i := 1049) (by decide +kernel) rfl, tb_of (i := 1050) (by decide +kernel) rfl, tb_of (i := 12) (by decide +kernel) rfl, by decide +kernel, by decide +kernel, by decide +kernel, by decide⟩
theorem yv_X11_aheadOf : YV yX11_aheadOf cX11_aheadOf 3 (some .int) 2 := ⟨tb_of (i := 1221) (by decide +kernel) rfl, tb_of (i := 1220) (by decide +kernel) rfl, tb_sel (i := 103) (by decide +kernel) rfl, tb_of (i := 12) (by decide +kernel) rfl, by decide +kernel, by decide +kernel, by decide +kernel, by decide⟩
theorem yv_X11_openBy : YV yX11_openBy cX11_openBy 4 none 3 := ⟨tb_of (i := 1118) (by decide +kernel) rfl, tb_of (i := 1117) (by decide +kernel) rfl, tb_sel (i := 94) (by decide +kernel) rfl, tb_of (i := 12) (by decide +kernel) rfl, by decide +kernel, by decide +kernel, by decide +kernel, by decide⟩
theorem yv_X11_matchOf : YV yX11_matchOf cX11_matchOf 7 (some .int) 3 := ⟨tb_of (i := 1122) (by decide +kernel) rfl, tb_of (i := 1121) (by decide +kernel) rfl, tb_sel (i := 95) (by decide +kernel) rfl, tb_of (i := 12) (by decide +kernel) rfl, by decide +kernel, by decide +kernel, by decide +kernel, by decide⟩
theorem yv_X11_isAwaited : YV yX11_isAwaited cX11_isAwaited 4 (some .boolean) 2 := ⟨tb_of (i := 1114) (by decide +kernel) rfl, tb_of (i := 1113) (by decide +kernel) rfl, tb_sel (i := 93) (by decide +kernel) rfl, tb_of (i := 12) (by decide +kernel) rfl, by decide +kernel, by decide +kernel, by decide +kernel, by decide⟩
theorem yv_X11_hears : YV yX11_hears cX11_hears 7 (some .boolean) 2 := ⟨tb_of (i := 1110) (by decide +kernel) rfl, tb_of (i := 1109) (by decide +kernel) rfl, tb_sel (i := 92) (by decide +kernel) rfl, tb_of (i := 12) (by decide +kernel) rfl, by decide +kernel, by decide +kernel, by decide +kernel, by decide⟩
theorem ys_X11_far : YS yX11_far cX11_far 2 (some .int) 2 := ⟨tb_of (i := 1106) (by decide +kernel) rfl, tb_of (i := 1105) (by decide +kernel) rfl, tb_of (i := 12) (by decide +kernel) rfl, by decide +kernel, by decide +kernel, by decide +kernel, by decide⟩
theorem yv_X11_sendFrom : YV yX11_sendFrom cX11_sendFrom 7 (some .int) 3 := ⟨tb_of (i := 1100) (by decide +kernel) rfl, tb_of (i := 1099) (by decide +kernel) rfl, tb_sel (i := 91) (by decide +kernel) rfl, tb_of (i := 12) (by decide +kernel) rfl, by decide +kernel, by decide +kernel, by decide +kernel, by decide⟩
theorem yv_X11_keepCode : YV yX11_keepCode cX11_keepCode 3 none 1 := ⟨tb_of (i := 1126) (by decide +kernel) rfl, tb_of (i := 1125) (by decide +kernel) rfl, tb_sel (i := 96) (by decide +kernel) rfl, tb_of (i := 12) (by decide +kernel) rfl, by decide +kernel, by decide +kernel, by decide +kernel, by decide⟩
theorem yv_X11_sendBy : YV yX11_sendBy cX11_sendBy 6 (some .int) 2 := ⟨tb_of (i := 1096) (by decide +kernel) rfl, tb_of (i := 1095) (by decide +kernel) rfl, tb_sel (i := 90) (by decide +kernel) rfl, tb_of (i := 12) (by decide +kernel) rfl, by decide +kernel, by decide +kernel, by decide +kernel, by decide⟩
theorem yv_X11_stepOn : YV yX11_stepOn cX11_stepOn 2 none 1 := ⟨tb_of (i := 1092) (by decide +kernel) rfl, tb_of (i := 1091) (by decide +kernel) rfl, tb_sel (i := 89) (by decide +kernel) rfl, tb_of (i := 12) (by decide +kernel) rfl, by decide +kernel, by decide +kernel, by decide +kernel, by decide⟩
theorem yv_X11_pressNow : YV yX11_pressNow cX11_pressNow 5 (some .int) 1 := ⟨tb_of (i := 1088) (by decide +kernel) rfl, tb_of (i := 1087) (by decide +kernel) rfl, tb_sel (i := 88) (by decide +kernel) rfl, tb_of (i := 12) (by decide +kernel) rfl, by decide +kernel, by decide +kernel, by decide +kernel, by decide⟩
theorem yv_X11_openings : YV yX11_openings cX11_openings 3 (some .int) 0 := ⟨tb_of (i := 1063) (by decide +kernel) rfl, tb_of (i := 1062) (by decide +kernel) rfl, tb_sel (i := 83) (by decide +kernel) rfl, tb_of (i := 12) (by decide +kernel) rfl, by decide +kernel, by decide +kernel, by decide +kernel, by decide⟩
theorem yv_X11_told : YV yX11_told cX11_told 2 (some .int) 1 := ⟨tb_of (i := 1059) (by decide +kernel) rfl, tb_of (i := 1057) (by decide +kernel) rfl, tb_of (i := 1058) (by decide +kernel) rfl, tb_of (i := 12) (by decide +kernel) rfl, by decide +kernel, by decide +kernel, by decide +kernel, by decide⟩
theorem yv_X11_fob : YV yX11_fob cX11_fob 3 (some .int) 2 := ⟨tb_of (i := 1067) (by decide +kernel) rfl, tb_of (i := 1065) (by decide +kernel) rfl, tb_of (i := 1066) (by decide +kernel) rfl, tb_of (i := 12) (by decide +kernel) rfl, by decide +kernel, by decide +kernel, by decide +kernel, by decide⟩
theorem yv_X11_gate : YV yX11_gate cX11_gate 3 (some .int) 2 := ⟨tb_of (i := 1137) (by decide +kernel) rfl, tb_of (i := 1135) (by decide +kernel) rfl, tb_of (i := 1136) (by decide +kernel) rfl, tb_of (i := 12) (by decide +kernel) rfl, by decide +kernel, by decide +kernel, by decide +kernel, by decide⟩
theorem yv_X11_last : YV yX11_last cX11_last 3 (some .int) 2 := ⟨tb_of (i := 1149) (by decide +kernel) rfl, tb_of (i := 1147) (by decide +kernel) rfl, tb_of (i := 1148) (by decide +kernel) rfl, tb_of (i := 12) (by decide +kernel) rfl, by decide +kernel, by decide +kernel, by decide +kernel, by decide⟩
theorem yv_X11_kept : YV yX11_kept cX11_kept 2 (some .int) 1 := ⟨tb_of (i := 1153) (by decide +kernel) rfl, tb_of (i := 1151) (by decide +kernel) rfl, tb_of (i := 1152) (by decide +kernel) rfl, tb_of (i := 12) (by decide +kernel) rfl, by decide +kernel, by decide +kernel, by decide +kernel, by decide⟩
theorem yv_X11_remember : YV yX11_remember cX11_remember 2 none 0 := ⟨tb_of (i := 1162) (by decide +kernel) rfl, tb_of (i := 1161) (by decide +kernel) rfl, tb_sel (i := 100) (by decide +kernel) rfl, tb_of (i := 12) (by decide +kernel) rfl, by decide +kernel, by decide +kernel, by decide +kernel, by decide⟩
theorem yv_X11_press : YV yX11_press cX11_press 2 (some .int) 1 := ⟨tb_of (i := 1157) (by decide +kernel) rfl, tb_of (i := 1155) (by decide +kernel) rfl, tb_of (i := 1156) (by decide +kernel) rfl, tb_of (i := 12) (by decide +kernel) rfl, by decide +kernel, by decide +kernel, by decide +kernel, by decide⟩
theorem yv_X11_step : YV yX11_step cX11_step 4 (some .int) 2 := ⟨tb_of (i := 1166) (by decide +kernel) rfl, tb_of (i := 1164) (by decide +kernel) rfl, tb_of (i := 1165) (by decide +kernel) rfl, tb_of (i := 12) (by decide +kernel) rfl, by decide +kernel, by decide +kernel, by decide +kernel, by decide⟩
theorem yv_X11_earTo : YV yX11_earTo cX11_earTo 3 (some .int) 1 := ⟨tb_of (i := 1171) (by decide +kernel) rfl, tb_of (i := 1169) (by decide +kernel) rfl, tb_of (i := 1170) (by decide +kernel) rfl, tb_of (i := 12) (by decide +kernel) rfl, by decide +kernel, by decide +kernel, by decide +kernel, by decide⟩
theorem yv_X11_noise : YV yX11_noise cX11_noise 3 (some .int) 2 := ⟨tb_of (i := 1175) (by decide +kernel) rfl, tb_of (i := 1173) (by decide +kernel) rfl, tb_of (i := 1174) (by decide +kernel) rfl, tb_of (i := 12) (by decide +kernel) rfl, by decide +kernel, by decide +kernel, by decide +kernel, by decide⟩
theorem yv_X11_teach : YV yX11_teach cX11_teach 3 (some .int) 2 := ⟨tb_of (i := 1179) (by decide +kernel) rfl, tb_of (i := 1177) (by decide +kernel) rfl, tb_of (i := 1178) (by decide +kernel) rfl, tb_of (i := 12) (by decide +kernel) rfl, by decide +kernel, by decide +kernel, by decide +kernel, by decide⟩
theorem yv_X11_again : YV yX11_again cX11_again 2 (some .int) 1 := ⟨tb_of (i := 1183) (by decide +kernel) rfl, tb_of (i := 1181) (by decide +kernel) rfl, tb_of (i := 1182) (by decide +kernel) rfl, tb_of (i := 12) (by decide +kernel) rfl, by decide +kernel, by decide +kernel, by decide +kernel, by decide⟩
theorem yv_X11_fill : YV yX11_fill cX11_fill 3 (some .int) 1 := ⟨tb_of (i := 1187) (by decide +kernel) rfl, tb_of (i := 1185) (by decide +kernel) rfl, tb_of (i := 1186) (by decide +kernel) rfl, tb_of (i := 12) (by decide +kernel) rfl, by decide +kernel, by decide +kernel, by decide +kernel, by decide⟩
theorem yv_X11_draw : YV yX11_draw cX11_draw 2 (some .int) 1 := ⟨tb_of (i := 1200) (by decide +kernel) rfl, tb_of (i := 1199) (by decide +kernel) rfl, tb_sel (i := 102) (by decide +kernel) rfl, tb_of (i := 12) (by decide +kernel) rfl, by decide +kernel, by decide +kernel, by decide +kernel, by decide⟩
theorem yv_X11_chance : YV yX11_chance cX11_chance 4 none 0 := ⟨tb_of (i := 1196) (by decide +kernel) rfl, tb_of (i := 1195) (by decide +kernel) rfl, tb_sel (i := 101) (by decide +kernel) rfl, tb_of (i := 12) (by decide +kernel) rfl, by decide +kernel, by decide +kernel, by decide +kernel, by decide⟩
theorem yv_X11_drift : YV yX11_drift cX11_drift 3 (some .int) 1 := ⟨tb_of (i := 1191) (by decide +kernel) rfl, tb_of (i := 1189) (by decide +kernel) rfl, tb_of (i := 1190) (by decide +kernel) rfl, tb_of (i := 12) (by decide +kernel) rfl, by decide +kernel, by decide +kernel, by decide +kernel, by decide⟩
theorem yv_X11_undo : YV yX11_undo cX11_undo 2 (some .int) 0 := ⟨tb_of (i := 1208) (by decide +kernel) rfl, tb_of (i := 1206) (by decide +kernel) rfl, tb_of (i := 1207) (by decide +kernel) rfl, tb_of (i := 12) (by decide +kernel) rfl, by decide +kernel, by decide +kernel, by decide +kernel, by decide⟩
theorem yv_X11_keepNow : YV yX11_keepNow cX11_keepNow 1 none 0 := ⟨tb_of (i := 1084) (by decide +kernel) rfl, tb_of (i := 1083) (by decide +kernel) rfl, tb_sel (i := 87) (by decide +kernel) rfl, tb_of (i := 12) (by decide +kernel) rfl, by decide +kernel, by decide +kernel, by decide +kernel, by decide⟩
theorem yv_X11_putBack : YV yX11_putBack cX11_putBack 1 none 0 := ⟨tb_of (i := 1130) (by decide +kernel) rfl, tb_of (i := 1129) (by decide +kernel) rfl, tb_sel (i := 97) (by decide +kernel) rfl, tb_of (i := 12) (by decide +kernel) rfl, by decide +kernel, by decide +kernel, by decide +kernel, by decide⟩
theorem yv_X11_opensFrom : YV yX11_opensFrom cX11_opensFrom 4 (some .int) 2 := ⟨tb_of (i := 1080) (by decide +kernel) rfl, tb_of (i := 1079) (by decide +kernel) rfl, tb_sel (i := 86) (by decide +kernel) rfl, tb_of (i := 12) (by decide +kernel) rfl, by decide +kernel, by decide +kernel, by decide +kernel, by decide⟩
theorem yv_X11_wouldOpen : YV yX11_wouldOpen cX11_wouldOpen 3 (some .int) 2 := ⟨tb_of (i := 1212) (by decide +kernel) rfl, tb_of (i := 1210) (by decide +kernel) rfl, tb_of (i := 1211) (by decide +kernel) rfl, tb_of (i := 12) (by decide +kernel) rfl, by decide +kernel, by decide +kernel, by decide +kernel, by decide⟩
theorem yv_X11_bestPlace : YV yX11_bestPlace cX11_bestPlace 6 (some .int) 1 := ⟨tb_of (i := 1076) (by decide +kernel) rfl, tb_of (i := 1075) (by decide +kernel) rfl, tb_sel (i := 85) (by decide +kernel) rfl, tb_of (i := 12) (by decide +kernel) rfl, by decide +kernel, by decide +kernel, by decide +kernel, by decide⟩
theorem yv_X11_ahead : YV yX11_ahead cX11_ahead 3 (some .int) 2 := ⟨tb_of (i := 1217) (by decide +kernel) rfl, tb_of (i := 1215) (by decide +kernel) rfl, tb_of (i := 1216) (by decide +kernel) rfl, tb_of (i := 12) (by decide +kernel) rfl, by decide +kernel, by decide +kernel, by decide +kernel, by decide⟩
theorem yv_X11_opensNextTo : YV yX11_opensNextTo cX11_opensNextTo 4 (some .boolean) 2 := ⟨tb_of (i := 1229) (by decide +kernel) rfl, tb_of (i := 1228) (by decide +kernel) rfl, tb_sel (i := 104) (by decide +kernel) rfl, tb_of (i := 12) (by decide +kernel) rfl, by decide +kernel, by decide +kernel, by decide +kernel, by decide⟩
theorem yv_X11_locked : YV yX11_locked cX11_locked 6 (some .int) 2 := ⟨tb_of (i := 1225) (by decide +kernel) rfl, tb_of (i := 1223) (by decide +kernel) rfl, tb_of (i := 1224) (by decide +kernel) rfl, tb_of (i := 12) (by decide +kernel) rfl, by decide +kernel, by decide +kernel, by decide +kernel, by decide⟩
theorem yv_X11_takes : YV yX11_takes cX11_takes 5 (some .int) 2 := ⟨tb_of (i := 1233) (by decide +kernel) rfl, tb_of (i := 1231) (by decide +kernel) rfl, tb_of (i := 1232) (by decide +kernel) rfl, tb_of (i := 12) (by decide +kernel) rfl, by decide +kernel, by decide +kernel, by decide +kernel, by decide⟩
theorem yv_X11_usefulAt : YV yX11_usefulAt cX11_usefulAt 4 (some .int) 1 := ⟨tb_of (i := 1145) (by decide +kernel) rfl, tb_of (i := 1144) (by decide +kernel) rfl, tb_sel (i := 99) (by decide +kernel) rfl, tb_of (i := 12) (by decide +kernel) rfl, by decide +kernel, by decide +kernel, by decide +kernel, by decide⟩
theorem yv_X11_inReach : YV yX11_inReach cX11_inReach 3 (some .int) 0 := ⟨tb_of (i := 1245) (by decide +kernel) rfl, tb_of (i := 1244) (by decide +kernel) rfl, tb_sel (i := 106) (by decide +kernel) rfl, tb_of (i := 12) (by decide +kernel) rfl, by decide +kernel, by decide +kernel, by decide +kernel, by decide⟩
theorem yv_X11_opensAll : YV yX11_opensAll cX11_opensAll 6 (some .boolean) 2 := ⟨tb_of (i := 1249) (by decide +kernel) rfl, tb_of (i := 1248) (by decide +kernel) rfl, tb_sel (i := 107) (by decide +kernel) rfl, tb_of (i := 12) (by decide +kernel) rfl, by decide +kernel, by decide +kernel, by decide +kernel, by decide⟩
theorem yv_X11_findRow : YV yX11_findRow cX11_findRow 5 none 0 := ⟨tb_of (i := 1241) (by decide +kernel) rfl, tb_of (i := 1240) (by decide +kernel) rfl, tb_sel (i := 105) (by decide +kernel) rfl, tb_of (i := 12) (by decide +kernel) rfl, by decide +kernel, by decide +kernel, by decide +kernel, by decide⟩
theorem yv_X11_row : YV yX11_row cX11_row 4 (some .int) 1 := ⟨tb_of (i := 1237) (by decide +kernel) rfl, tb_of (i := 1235) (by decide +kernel) rfl, tb_of (i := 1236) (by decide +kernel) rfl, tb_of (i := 12) (by decide +kernel) rfl, by decide +kernel, by decide +kernel, by decide +kernel, by decide⟩
theorem yv_X11_couldSend : YV yX11_couldSend cX11_couldSend 5 (some .boolean) 2 := ⟨tb_of (i := 1258) (by decide +kernel) rfl, tb_of (i := 1257) (by decide +kernel) rfl, tb_sel (i := 108) (by decide +kernel) rfl, tb_of (i := 12) (by decide +kernel) rfl, by decide +kernel, by decide +kernel, by decide +kernel, by decide⟩
theorem yv_X11_who : YV yX11_who cX11_who 4 (some .int) 1 := ⟨tb_of (i := 1253) (by decide +kernel) rfl, tb_of (i := 1251) (by decide +kernel) rfl, tb_of (i := 1252) (by decide +kernel) rfl, tb_of (i := 12) (by decide +kernel) rfl, by decide +kernel, by decide +kernel, by decide +kernel, by decide⟩
theorem yv_X11_same : YV yX11_same cX11_same 6 (some .int) 2 := ⟨tb_of (i := 1262) (by decide +kernel) rfl, tb_of (i := 1260) (by decide +kernel) rfl, tb_of (i := 1261) (by decide +kernel) rfl, tb_of (i := 12) (by decide +kernel) rfl, by decide +kernel, by decide +kernel, by decide +kernel, by decide⟩
theorem yv_X11_quiet : YV yX11_quiet cX11_quiet 6 (some .int) 2 := ⟨tb_of (i := 1266) (by decide +kernel) rfl, tb_of (i := 1264) (by decide +kernel) rfl, tb_of (i := 1265) (by decide +kernel) rfl, tb_of (i := 12) (by decide +kernel) rfl, by decide +kernel, by decide +kernel, by decide +kernel, by decide⟩
theorem yv_X11_see : YV yX11_see cX11_see 3 (some .int) 2 := ⟨tb_of (i := 1272) (by decide +kernel) rfl, tb_of (i := 1270) (by decide +kernel) rfl, tb_of (i := 1271) (by decide +kernel) rfl, tb_of (i := 12) (by decide +kernel) rfl, by decide +kernel, by decide +kernel, by decide +kernel, by decide⟩
theorem yv_X11_couldBe : YV yX11_couldBe cX11_couldBe 4 (some .boolean) 1 := ⟨tb_of (i := 1282) (by decide +kernel) rfl, tb_of (i := 1281) (by decide +kernel) rfl, tb_sel (i := 109) (by decide +kernel) rfl, tb_of (i := 12) (by decide +kernel) rfl, by decide +kernel, by decide +kernel, by decide +kernel, by decide⟩
theorem yv_X11_manySecrets : YV yX11_manySecrets cX11_manySecrets 3 (some .int) 0 := ⟨tb_of (i := 1286) (by decide +kernel) rfl, tb_of (i := 1285) (by decide +kernel) rfl, tb_sel (i := 110) (by decide +kernel) rfl, tb_of (i := 12) (by decide +kernel) rfl, by decide +kernel, by decide +kernel, by decide +kernel, by decide⟩
theorem yv_X11_secrets : YV yX11_secrets cX11_secrets 5 (some .int) 1 := ⟨tb_of (i := 1277) (by decide +kernel) rfl, tb_of (i := 1275) (by decide +kernel) rfl, tb_of (i := 1276) (by decide +kernel) rfl, tb_of (i := 12) (by decide +kernel) rfl, by decide +kernel, by decide +kernel, by decide +kernel, by decide⟩
theorem yv_X11_greatestPart : YV yX11_greatestPart cX11_greatestPart 5 (some .int) 1 := ⟨tb_of (i := 1294) (by decide +kernel) rfl, tb_of (i := 1293) (by decide +kernel) rfl, tb_sel (i := 111) (by decide +kernel) rfl, tb_of (i := 12) (by decide +kernel) rfl, by decide +kernel, by decide +kernel, by decide +kernel, by decide⟩
theorem yv_X11_ask : YV yX11_ask cX11_ask 5 (some .int) 0 := ⟨tb_of (i := 1290) (by decide +kernel) rfl, tb_of (i := 1288) (by decide +kernel) rfl, tb_of (i := 1289) (by decide +kernel) rfl, tb_of (i := 12) (by decide +kernel) rfl, by decide +kernel, by decide +kernel, by decide +kernel, by decide⟩
theorem yv_X11_write : YV yX11_write cX11_write 3 (some .int) 2 := ⟨tb_of (i := 1298) (by decide +kernel) rfl, tb_of (i := 1296) (by decide +kernel) rfl, tb_of (i := 1297) (by decide +kernel) rfl, tb_of (i := 12) (by decide +kernel) rfl, by decide +kernel, by decide +kernel, by decide +kernel, by decide⟩
theorem yv_X11_tear : YV yX11_tear cX11_tear 2 (some .int) 0 := ⟨tb_of (i := 1302) (by decide +kernel) rfl, tb_of (i := 1300) (by decide +kernel) rfl, tb_of (i := 1301) (by decide +kernel) rfl, tb_of (i := 12) (by decide +kernel) rfl, by decide +kernel, by decide +kernel, by decide +kernel, by decide⟩
theorem yv_X11_judge : YV yX11_judge cX11_judge 2 (some .int) 0 := ⟨tb_of (i := 1306) (by decide +kernel) rfl, tb_of (i := 1304) (by decide +kernel) rfl, tb_of (i := 1305) (by decide +kernel) rfl, tb_of (i := 12) (by decide +kernel) rfl, by decide +kernel, by decide +kernel, by decide +kernel, by decide⟩
theorem yv_X11_seed : YV yX11_seed cX11_seed 3 (some .int) 1 := ⟨tb_of (i := 1310) (by decide +kernel) rfl, tb_of (i := 1308) (by decide +kernel) rfl, tb_of (i := 1309) (by decide +kernel) rfl, tb_of (i := 12) (by decide +kernel) rfl, by decide +kernel, by decide +kernel, by decide +kernel, by decide⟩
theorem yv_X11_keep : YV yX11_keep cX11_keep 3 (some .int) 1 := ⟨tb_of (i := 1314) (by decide +kernel) rfl, tb_of (i := 1312) (by decide +kernel) rfl, tb_of (i := 1313) (by decide +kernel) rfl, tb_of (i := 12) (by decide +kernel) rfl, by decide +kernel, by decide +kernel, by decide +kernel, by decide⟩
theorem yv_X11_goBack : YV yX11_goBack cX11_goBack 3 (some .int) 1 := ⟨tb_of (i := 1318) (by decide +kernel) rfl, tb_of (i := 1316) (by decide +kernel) rfl, tb_of (i := 1317) (by decide +kernel) rfl, tb_of (i := 12) (by decide +kernel) rfl, by decide +kernel, by decide +kernel, by decide +kernel, by decide⟩
theorem ys_J6_bitCount_0f7a4 : YS yJ6_bitCount_0f7a4 cJ6_bitCount_0f7a4 1 (some .int) 1 := ⟨tb_of (i := 571) (by decide +kernel) rfl, tb_of (i := 570) (by decide +kernel) rfl, tb_of (i := 15) (by decide +kernel) rfl, by decide +kernel, by decide +kernel, by decide +kernel, by decide⟩
theorem ys_J9_floorMod_7cf53 : YS yJ9_floorMod_7cf53 cJ9_floorMod_7cf53 3 (some .int) 2 := ⟨tb_of (i := 692) (by decide +kernel) rfl, tb_of (i := 691) (by decide +kernel) rfl, tb_of (i := 14) (by decide +kernel) rfl, by decide +kernel, by decide +kernel, by decide +kernel, by decide⟩
theorem ys_J9_abs_0f7a4 : YS yJ9_abs_0f7a4 cJ9_abs_0f7a4 1 (some .int) 1 := ⟨tb_of (i := 533) (by decide +kernel) rfl, tb_of (i := 532) (by decide +kernel) rfl, tb_of (i := 14) (by decide +kernel) rfl, by decide +kernel, by decide +kernel, by decide +kernel, by decide⟩
theorem ys_J9_max_7cf53 : YS yJ9_max_7cf53 cJ9_max_7cf53 2 (some .int) 2 := ⟨tb_of (i := 568) (by decide +kernel) rfl, tb_of (i := 567) (by decide +kernel) rfl, tb_of (i := 14) (by decide +kernel) rfl, by decide +kernel, by decide +kernel, by decide +kernel, by decide⟩
theorem ys_J9_min_7cf53 : YS yJ9_min_7cf53 cJ9_min_7cf53 2 (some .int) 2 := ⟨tb_of (i := 545) (by decide +kernel) rfl, tb_of (i := 544) (by decide +kernel) rfl, tb_of (i := 14) (by decide +kernel) rfl, by decide +kernel, by decide +kernel, by decide +kernel, by decide⟩
theorem ac_n : Cond.native arraycopyName ∈ TB := tb_of (i := 445) (by decide +kernel) rfl
theorem ac_s : Cond.static arraycopyName ∈ TB := tb_of (i := 444) (by decide +kernel) rfl
theorem ac_i : Cond.initialized "java/lang/System" ∈ TB := tb_of (i := 13) (by decide +kernel) rfl
theorem mt_i : Cond.initialized "java/lang/Math" ∈ TB := tb_of (i := 14) (by decide +kernel) rfl
theorem mt_s_max : Cond.static Lib.Math.max.name ∈ TB := tb_of (i := 567) (by decide +kernel) rfl
theorem mt_c_max : Cond.code Lib.Math.max.name Lib.Math.max.code 2 (some .int) ∈ TB := tb_of (i := 568) (by decide +kernel) rfl
theorem mt_s_min : Cond.static Lib.Math.min.name ∈ TB := tb_of (i := 544) (by decide +kernel) rfl
theorem mt_c_min : Cond.code Lib.Math.min.name Lib.Math.min.code 2 (some .int) ∈ TB := tb_of (i := 545) (by decide +kernel) rfl
theorem mt_s_abs : Cond.static Lib.Math.abs.name ∈ TB := tb_of (i := 532) (by decide +kernel) rfl
theorem mt_c_abs : Cond.code Lib.Math.abs.name Lib.Math.abs.code 1 (some .int) ∈ TB := tb_of (i := 533) (by decide +kernel) rfl
