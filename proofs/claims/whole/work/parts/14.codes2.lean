/- RollingCodes.passHour -/
def fX10_passHour_139  (σ : Mem) (x1 : Int32) : Option (Mem) :=
    if x1 = (4 : Int32) then (if (σ 7 0 0 4) ≤ 0 then (some σ) else (d_bd (fX1_next (σ 1 0) (σ 7 0 0 4)) fun q12 => d_lt (upM σ 1 0 q12.2) fun m13 => d_bd (fX7_sentAgain (m13 7 0) (m13 4 0) q12.1) fun q14 => d_lt (upM m13 7 0 q14.2) fun m15 => some m15)) else (some σ)
def fX10_passHour (σ : Mem) : Option (Mem) :=
    d_lt (upM σ 7 0 (wr (σ 7 0) 0 1 ((σ 7 0 0 1) + (1 : Int32)))) fun m1 => if (m1 4 0 0 4) = 0 then (some m1) else (d_bd (fX1_next (m1 1 0) (5 : Int32)) fun q3 => d_lt (upM m1 1 0 q3.2) fun m4 => d_bd (fX1_next (m4 1 0) (m4 4 0 0 4)) fun q5 => d_lt (upM m4 1 0 q5.2) fun m6 => if q3.1 ≤ (1 : Int32) then (d_ab q5.1 5 <| d_bd (fX7_pressedFrom (m6 7 0) (m6 4 0) q5.1 (m6 7 0 7 q5.1.toNatClampNeg)) fun q26 => d_lt (upM m6 7 0 q26.2) fun m27 => some m27) else (if q3.1 = (2 : Int32) then (d_bd (fX1_next (m6 1 0) (10 : Int32)) fun q21 => d_lt (upM m6 1 0 q21.2) fun m22 => d_ab q5.1 5 <| d_lt (upM m22 7 0 (wr (m22 7 0) 7 q5.1.toNatClampNeg q21.1)) fun m24 => some m24) else (if q3.1 = (3 : Int32) then (if (m6 4 0 0 3) ≤ 0 then (fX10_passHour_139 m6 q3.1) else (d_bd (fX1_next (m6 1 0) (m6 4 0 0 3)) fun q17 => d_lt (upM m6 1 0 q17.2) fun m18 => d_bd (fX7_turnNoise (m18 7 0) q17.1) fun q19 => d_lt (upM m18 7 0 q19) fun m20 => some m20)) else (fX10_passHour_139 m6 q3.1))))
set_option maxHeartbeats 4000000 in
set_option maxRecDepth 100000 in
theorem wX10_passHour_139 (Y : Dy) (G : G0) (hL : In G) (F : Fx Y G cX10_passHour RX10 6) (hY : Y.2.2.2.2.2.2.2.2.2.2.2.1 = 3) (σ' : Mem) (hR : ∀ (pc : Nat) (lv : List (Nat × Value)), decode cX10_passHour pc = .ok (.return_, 1) → U Y G σ' pc lv []) :
    ∀ (σ : Mem) (x1 : Int32), fX10_passHour_139 σ x1 = some σ' → U Y G σ 139 [(0, .ref (adr G (10, 0, 0))), (1, .int x1)] [] := by
  intro σ x1 h
  unfold fX10_passHour_139 at h
  refine u_iload_n (pc := 139) F dX10_passHour_139 1 rfl rfl ?_
  refine u_iconst (v := 4) (pc := 140) F dX10_passHour_140 (by decide) ?_
  refine u_icmp_ne (pc := 141) F 176 dX10_passHour_141 (by decide) (fun c10 => ?_) (fun c10 => ?_)
  · rw [if_neg c10] at h
    have h1 := Option.some.inj h
    subst h1
    exact hR _ _ dX10_passHour_176
  · rw [if_pos c10] at h
    refine u_aload_n (pc := 144) F dX10_passHour_144 0 rfl rfl ?_
    refine u_getO (pc := 145) F dX10_passHour_145 (hL 10 0 0 (by decide) rfl) ck_10 fl_10_35 rfl (by decide) rfl ?_
    refine u_get (pc := 148) F dX10_passHour_148 (hL 7 0 0 (by decide) rfl) ck_7 fl_10_142 rfl (by decide) rfl ?_
    refine u_if_le (pc := 151) F 176 dX10_passHour_151 (by decide) (fun c11 => ?_) (fun c11 => ?_)
    · rw [if_pos c11] at h
      have h1 := Option.some.inj h
      subst h1
      exact hR _ _ dX10_passHour_176
    · rw [if_neg c11] at h
      refine u_aload_n (pc := 154) F dX10_passHour_154 0 rfl rfl ?_
      refine u_getO (pc := 155) F dX10_passHour_155 (hL 10 0 0 (by decide) rfl) ck_10 fl_10_35 rfl (by decide) rfl ?_
      refine u_aload_n (pc := 158) F dX10_passHour_158 0 rfl rfl ?_
      refine u_getO (pc := 159) F dX10_passHour_159 (hL 10 0 0 (by decide) rfl) ck_10 fl_10_80 rfl (by decide) rfl ?_
      refine u_aload_n (pc := 162) F dX10_passHour_162 0 rfl rfl ?_
      refine u_getO (pc := 163) F dX10_passHour_163 (hL 10 0 0 (by decide) rfl) ck_10 fl_10_35 rfl (by decide) rfl ?_
      refine u_get (pc := 166) F dX10_passHour_166 (hL 7 0 0 (by decide) rfl) ck_7 fl_10_142 rfl (by decide) rfl ?_
      obtain ⟨q12, hq12, h⟩ := d_bd_some h
      refine u_calli (pc := 169) F (As := [.int (σ 7 0 0 4)]) (c_X1_next G hL (σ 7 0 0 4) σ (σ 1 0) (rfl) q12.1 q12.2 hq12) yv_X1_next ml_10_334 (hL 1 0 0 (by decide) rfl) rfl (by decide) rfl rfl (Nat.le_of_ble_eq_true rfl) dX10_passHour_169 ?_
      obtain ⟨m13, hm13, h⟩ := d_lt_some h
      refine u_mem hm13 ?_
      obtain ⟨q14, hq14, h⟩ := d_bd_some h
      refine u_calli (pc := 172) F (As := [.int q12.1]) (c_X7_sentAgain G hL 0 (by decide) q12.1 m13 (m13 7 0) (m13 4 0) (rfl) (rfl) q14.1 q14.2 hq14) yv_X7_sentAgain ml_10_247 (hL 7 0 0 (by decide) rfl) rfl (by decide) rfl rfl (Nat.le_of_ble_eq_true rfl) dX10_passHour_172 ?_
      obtain ⟨m15, hm15, h⟩ := d_lt_some h
      refine u_mem hm15 ?_
      refine u_pop (pc := 175) F dX10_passHour_175 rfl ?_
      have h1 := Option.some.inj h
      subst h1
      exact hR _ _ dX10_passHour_176
set_option maxHeartbeats 4000000 in
set_option maxRecDepth 100000 in
theorem c_X10_passHour (G : G0) (hL : In G) (σ : Mem) (σ' : Mem) (h : fX10_passHour σ = some σ') :
    CV G yX10_passHour cX10_passHour 3 6 [.ref (adr G (10, 0, 0))] σ (σ') := by
  refine CV.of (by decide +kernel) (Nat.le_of_ble_eq_true rfl) (fun Y hY F hR => ?_)
  unfold fX10_passHour at h
  have F : Fx Y G cX10_passHour RX10 6 := F
  refine u_lv (lv' := [(0, .ref (adr G (10, 0, 0)))]) [0] rfl ?_
  refine u_aload_n (pc := 0) F dX10_passHour_0 0 rfl rfl ?_
  refine u_getO (pc := 1) F dX10_passHour_1 (hL 10 0 0 (by decide) rfl) ck_10 fl_10_35 rfl (by decide) rfl ?_
  refine u_dup (pc := 4) F dX10_passHour_4 rfl ?_
  refine u_get (pc := 5) F dX10_passHour_5 (hL 7 0 0 (by decide) rfl) ck_7 fl_10_133 rfl (by decide) rfl ?_
  refine u_iconst (v := 1) (pc := 8) F dX10_passHour_8 (by decide) ?_
  refine u_iadd (pc := 9) F dX10_passHour_9 ?_
  refine u_put (pc := 10) F dX10_passHour_10 (hL 7 0 0 (by decide) rfl) ck_7 fl_10_133 rfl (by decide) rfl (ty0 := .int) (by decide +kernel) rfl rfl ?_
  obtain ⟨m1, hm1, h⟩ := d_lt_some h
  refine u_mem hm1 ?_
  refine u_aload_n (pc := 13) F dX10_passHour_13 0 rfl rfl ?_
  refine u_getO (pc := 14) F dX10_passHour_14 (hL 10 0 0 (by decide) rfl) ck_10 fl_10_26 rfl (by decide) rfl ?_
  refine u_get (pc := 17) F dX10_passHour_17 (hL 4 0 0 (by decide) rfl) ck_4 fl_10_123 rfl (by decide) rfl ?_
  refine u_if_ne (pc := 20) F 24 dX10_passHour_20 (by decide) (fun c2 => ?_) (fun c2 => ?_)
  · rw [if_neg c2] at h
    refine u_aload_n (pc := 24) F dX10_passHour_24 0 rfl rfl ?_
    refine u_getO (pc := 25) F dX10_passHour_25 (hL 10 0 0 (by decide) rfl) ck_10 fl_10_80 rfl (by decide) rfl ?_
    refine u_iconst (v := 5) (pc := 28) F dX10_passHour_28 (by decide) ?_
    obtain ⟨q3, hq3, h⟩ := d_bd_some h
    refine u_calli (pc := 29) F (As := [.int (5 : Int32)]) (c_X1_next G hL (5 : Int32) m1 (m1 1 0) (rfl) q3.1 q3.2 hq3) yv_X1_next ml_10_334 (hL 1 0 0 (by decide) rfl) rfl (by decide) rfl rfl (Nat.le_of_ble_eq_true rfl) dX10_passHour_29 ?_
    obtain ⟨m4, hm4, h⟩ := d_lt_some h
    refine u_mem hm4 ?_
    refine u_istore_n (lv' := [(1, .int q3.1), (0, .ref (adr G (10, 0, 0)))]) (pc := 32) F dX10_passHour_32 rfl hY (by decide) rfl ?_
    refine u_aload_n (pc := 33) F dX10_passHour_33 1 rfl rfl ?_
    refine u_getO (pc := 34) F dX10_passHour_34 (hL 10 0 0 (by decide) rfl) ck_10 fl_10_80 rfl (by decide) rfl ?_
    refine u_aload_n (pc := 37) F dX10_passHour_37 1 rfl rfl ?_
    refine u_getO (pc := 38) F dX10_passHour_38 (hL 10 0 0 (by decide) rfl) ck_10 fl_10_26 rfl (by decide) rfl ?_
    refine u_get (pc := 41) F dX10_passHour_41 (hL 4 0 0 (by decide) rfl) ck_4 fl_10_123 rfl (by decide) rfl ?_
    obtain ⟨q5, hq5, h⟩ := d_bd_some h
    refine u_calli (pc := 44) F (As := [.int (m4 4 0 0 4)]) (c_X1_next G hL (m4 4 0 0 4) m4 (m4 1 0) (rfl) q5.1 q5.2 hq5) yv_X1_next ml_10_334 (hL 1 0 0 (by decide) rfl) rfl (by decide) rfl rfl (Nat.le_of_ble_eq_true rfl) dX10_passHour_44 ?_
    obtain ⟨m6, hm6, h⟩ := d_lt_some h
    refine u_mem hm6 ?_
    refine u_istore_n (lv' := [(2, .int q5.1), (1, .int q3.1), (0, .ref (adr G (10, 0, 0)))]) (pc := 47) F dX10_passHour_47 rfl hY (by decide) rfl ?_
    refine u_iload_n (pc := 48) F dX10_passHour_48 1 rfl rfl ?_
    refine u_iconst (v := 1) (pc := 49) F dX10_passHour_49 (by decide) ?_
    refine u_icmp_gt (pc := 50) F 74 dX10_passHour_50 (by decide) (fun c7 => ?_) (fun c7 => ?_)
    · rw [if_neg c7] at h
      refine u_iload_n (pc := 74) F dX10_passHour_74 1 rfl rfl ?_
      refine u_iconst (v := 2) (pc := 75) F dX10_passHour_75 (by decide) ?_
      refine u_icmp_ne (pc := 76) F 100 dX10_passHour_76 (by decide) (fun c8 => ?_) (fun c8 => ?_)
      · rw [if_neg c8] at h
        refine u_iload_n (pc := 100) F dX10_passHour_100 1 rfl rfl ?_
        refine u_iconst (v := 3) (pc := 101) F dX10_passHour_101 (by decide) ?_
        refine u_icmp_ne (pc := 102) F 139 dX10_passHour_102 (by decide) (fun c9 => ?_) (fun c9 => ?_)
        · rw [if_neg c9] at h
          refine u_lv (lv' := [(0, .ref (adr G (10, 0, 0))), (1, .int q3.1)]) [2, 1] rfl ?_
          exact wX10_passHour_139 Y G hL F hY σ' hR m6 q3.1 h
        · rw [if_pos c9] at h
          refine u_aload_n (pc := 105) F dX10_passHour_105 2 rfl rfl ?_
          refine u_getO (pc := 106) F dX10_passHour_106 (hL 10 0 0 (by decide) rfl) ck_10 fl_10_26 rfl (by decide) rfl ?_
          refine u_get (pc := 109) F dX10_passHour_109 (hL 4 0 0 (by decide) rfl) ck_4 fl_10_130 rfl (by decide) rfl ?_
          refine u_if_le (pc := 112) F 139 dX10_passHour_112 (by decide) (fun c16 => ?_) (fun c16 => ?_)
          · rw [if_pos c16] at h
            refine u_lv (lv' := [(0, .ref (adr G (10, 0, 0))), (1, .int q3.1)]) [2, 1] rfl ?_
            exact wX10_passHour_139 Y G hL F hY σ' hR m6 q3.1 h
          · rw [if_neg c16] at h
            refine u_aload_n (pc := 115) F dX10_passHour_115 2 rfl rfl ?_
            refine u_getO (pc := 116) F dX10_passHour_116 (hL 10 0 0 (by decide) rfl) ck_10 fl_10_35 rfl (by decide) rfl ?_
            refine u_aload_n (pc := 119) F dX10_passHour_119 2 rfl rfl ?_
            refine u_getO (pc := 120) F dX10_passHour_120 (hL 10 0 0 (by decide) rfl) ck_10 fl_10_80 rfl (by decide) rfl ?_
            refine u_aload_n (pc := 123) F dX10_passHour_123 2 rfl rfl ?_
            refine u_getO (pc := 124) F dX10_passHour_124 (hL 10 0 0 (by decide) rfl) ck_10 fl_10_26 rfl (by decide) rfl ?_
            refine u_get (pc := 127) F dX10_passHour_127 (hL 4 0 0 (by decide) rfl) ck_4 fl_10_130 rfl (by decide) rfl ?_
            obtain ⟨q17, hq17, h⟩ := d_bd_some h
            refine u_calli (pc := 130) F (As := [.int (m6 4 0 0 3)]) (c_X1_next G hL (m6 4 0 0 3) m6 (m6 1 0) (rfl) q17.1 q17.2 hq17) yv_X1_next ml_10_334 (hL 1 0 0 (by decide) rfl) rfl (by decide) rfl rfl (Nat.le_of_ble_eq_true rfl) dX10_passHour_130 ?_
            obtain ⟨m18, hm18, h⟩ := d_lt_some h
            refine u_mem hm18 ?_
            obtain ⟨q19, hq19, h⟩ := d_bd_some h
            refine u_callv (pc := 133) F (As := [.int q17.1]) (c_X7_turnNoise G hL 0 (by decide) q17.1 m18 (m18 7 0) (rfl) q19 hq19) yv_X7_turnNoise ml_10_239 (hL 7 0 0 (by decide) rfl) rfl (by decide) rfl rfl (Nat.le_of_ble_eq_true rfl) dX10_passHour_133 ?_
            obtain ⟨m20, hm20, h⟩ := d_lt_some h
            refine u_mem hm20 ?_
            refine u_goto (pc := 136) F 176 dX10_passHour_136 (by decide) ?_
            have h1 := Option.some.inj h
            subst h1
            exact hR _ _ dX10_passHour_176
      · rw [if_pos c8] at h
        refine u_aload_n (pc := 79) F dX10_passHour_79 2 rfl rfl ?_
        refine u_getO (pc := 80) F dX10_passHour_80 (hL 10 0 0 (by decide) rfl) ck_10 fl_10_35 rfl (by decide) rfl ?_
        refine u_getA (pc := 83) F dX10_passHour_83 (hL 7 0 0 (by decide) rfl) ck_7 fl_10_165 rfl (by decide) (by decide) ?_
        refine u_iload_n (pc := 86) F dX10_passHour_86 0 rfl rfl ?_
        refine u_aload_n (pc := 87) F dX10_passHour_87 2 rfl rfl ?_
        refine u_getO (pc := 88) F dX10_passHour_88 (hL 10 0 0 (by decide) rfl) ck_10 fl_10_80 rfl (by decide) rfl ?_
        refine u_bipush (v := 10) (pc := 91) F dX10_passHour_91 (by decide) ?_
        obtain ⟨q21, hq21, h⟩ := d_bd_some h
        refine u_calli (pc := 93) F (As := [.int (10 : Int32)]) (c_X1_next G hL (10 : Int32) m6 (m6 1 0) (rfl) q21.1 q21.2 hq21) yv_X1_next ml_10_334 (hL 1 0 0 (by decide) rfl) rfl (by decide) rfl rfl (Nat.le_of_ble_eq_true rfl) dX10_passHour_93 ?_
        obtain ⟨m22, hm22, h⟩ := d_lt_some h
        refine u_mem hm22 ?_
        obtain ⟨b23, h⟩ := d_ab_some h
        refine u_astI (pc := 96) F dX10_passHour_96 (hL 7 0 7 (by decide) rfl) rfl b23 rfl ?_
        obtain ⟨m24, hm24, h⟩ := d_lt_some h
        refine u_mem hm24 ?_
        refine u_goto (pc := 97) F 176 dX10_passHour_97 (by decide) ?_
        have h1 := Option.some.inj h
        subst h1
        exact hR _ _ dX10_passHour_176
    · rw [if_pos c7] at h
      refine u_aload_n (pc := 53) F dX10_passHour_53 2 rfl rfl ?_
      refine u_getO (pc := 54) F dX10_passHour_54 (hL 10 0 0 (by decide) rfl) ck_10 fl_10_35 rfl (by decide) rfl ?_
      refine u_iload_n (pc := 57) F dX10_passHour_57 0 rfl rfl ?_
      refine u_aload_n (pc := 58) F dX10_passHour_58 2 rfl rfl ?_
      refine u_getO (pc := 59) F dX10_passHour_59 (hL 10 0 0 (by decide) rfl) ck_10 fl_10_35 rfl (by decide) rfl ?_
      refine u_getA (pc := 62) F dX10_passHour_62 (hL 7 0 0 (by decide) rfl) ck_7 fl_10_165 rfl (by decide) (by decide) ?_
      refine u_iload_n (pc := 65) F dX10_passHour_65 0 rfl rfl ?_
      obtain ⟨b25, h⟩ := d_ab_some h
      refine u_aldI (pc := 66) F dX10_passHour_66 (hL 7 0 7 (by decide) rfl) rfl b25 rfl ?_
      obtain ⟨q26, hq26, h⟩ := d_bd_some h
      refine u_calli (pc := 67) F (As := [.int q5.1, .int (m6 7 0 7 q5.1.toNatClampNeg)]) (c_X7_pressedFrom G hL 0 (by decide) q5.1 (m6 7 0 7 q5.1.toNatClampNeg) m6 (m6 7 0) (m6 4 0) (rfl) (rfl) q26.1 q26.2 hq26) yv_X7_pressedFrom ml_10_230 (hL 7 0 0 (by decide) rfl) rfl (by decide) rfl rfl (Nat.le_of_ble_eq_true rfl) dX10_passHour_67 ?_
      obtain ⟨m27, hm27, h⟩ := d_lt_some h
      refine u_mem hm27 ?_
      refine u_pop (pc := 70) F dX10_passHour_70 rfl ?_
      refine u_goto (pc := 71) F 176 dX10_passHour_71 (by decide) ?_
      have h1 := Option.some.inj h
      subst h1
      exact hR _ _ dX10_passHour_176
  · rw [if_pos c2] at h
    have h1 := Option.some.inj h
    subst h1
    exact hR _ _ dX10_passHour_23
/- RollingCodes.drift -/
def fX10_drift_56  : Nat → Mem → Int32 → Int32 → Option (Int32 × Mem)
  | 0, _, _, _ => none
  | fu + 1, σ, x1, x2 =>
    if x2 < x1 then (d_bd (fX10_passHour σ) fun q7 => d_lt (x2 + (1 : Int32)) fun v8 => fX10_drift_56 fu q7 x1 v8) else (some (σ 7 0 0 1, σ))
def fX10_drift (σ : Mem) (x1 : Int32) : Option (Int32 × Mem) :=
    if x1 < (1 : Int32) then (some ((-1000000002 : Int32), σ)) else (if x1 ≤ (60 : Int32) then (if (σ 4 0 0 0) = 0 then (some ((-1000000003 : Int32), σ)) else (if (σ 7 0 0 1) ≤ (9000 : Int32) then (d_bd (fX3_remember σ) fun q5 => fX10_drift_56 1000 q5 x1 (0 : Int32)) else (some ((-1000000004 : Int32), σ)))) else (some ((-1000000002 : Int32), σ)))
set_option maxHeartbeats 4000000 in
set_option maxRecDepth 100000 in
theorem wX10_drift_56 (Y : Dy) (G : G0) (hL : In G) (F : Fx Y G cX10_drift RX10 7) (hY : Y.2.2.2.2.2.2.2.2.2.2.2.1 = 3) (r : Int32) (σ' : Mem) (hR : ∀ (pc : Nat) (lv : List (Nat × Value)), narrow .int (.int r) = .int r → decode cX10_drift pc = .ok (.ireturn, 1) → U Y G σ' pc lv [.int r]) :
    ∀ (fu : Nat) (σ : Mem) (x1 : Int32) (x2 : Int32), fX10_drift_56 fu σ x1 x2 = some (r, σ') → U Y G σ 56 [(0, .ref (adr G (10, 0, 0))), (1, .int x1), (2, .int x2)] [] := by
  intro fu
  induction fu with
  | zero =>
    intro σ x1 x2 h
    rw [fX10_drift_56] at h
    cases h
  | succ fu ih =>
    intro σ x1 x2 h
    rw [fX10_drift_56] at h
    refine u_iload_n (pc := 56) F dX10_drift_56 2 rfl rfl ?_
    refine u_iload_n (pc := 57) F dX10_drift_57 1 rfl rfl ?_
    refine u_icmp_ge (pc := 58) F 71 dX10_drift_58 (by decide) (fun c6 => ?_) (fun c6 => ?_)
    · rw [if_neg c6] at h
      refine u_aload_n (pc := 71) F dX10_drift_71 0 rfl rfl ?_
      refine u_getO (pc := 72) F dX10_drift_72 (hL 10 0 0 (by decide) rfl) ck_10 fl_10_35 rfl (by decide) rfl ?_
      refine u_get (pc := 75) F dX10_drift_75 (hL 7 0 0 (by decide) rfl) ck_7 fl_10_133 rfl (by decide) rfl ?_
      have h1 := Option.some.inj h
      obtain ⟨hj0, hr0⟩ := Prod.mk.inj h1
      subst hj0
      subst hr0
      exact hR _ _ rfl dX10_drift_78
    · rw [if_pos c6] at h
      refine u_aload_n (pc := 61) F dX10_drift_61 0 rfl rfl ?_
      obtain ⟨q7, hq7, h⟩ := d_bd_some h
      refine u_callv (pc := 62) F (As := []) (c_X10_passHour G hL σ q7 hq7) yv_X10_passHour ml_10_250 (hL 10 0 0 (by decide) rfl) rfl (by decide) rfl rfl (Nat.le_of_ble_eq_true rfl) dX10_drift_62 ?_
      obtain ⟨v8, hv8, h⟩ := d_lt_some h
      refine u_iinc (lv' := [(2, .int v8), (0, .ref (adr G (10, 0, 0))), (1, .int x1)]) (pc := 65) F dX10_drift_65 2 rfl hv8.symm hY (by decide) rfl ?_
      refine u_goto (pc := 68) F 56 dX10_drift_68 (by decide) ?_
      refine u_lv (lv' := [(0, .ref (adr G (10, 0, 0))), (1, .int x1), (2, .int v8)]) [1, 2, 0] rfl ?_
      exact ih q7 x1 v8 h
set_option maxHeartbeats 4000000 in
set_option maxRecDepth 100000 in
theorem c_X10_drift (G : G0) (hL : In G) (x1 : Int32) (σ : Mem) (r : Int32) (σ' : Mem) (h : fX10_drift σ x1 = some (r, σ')) :
    CI G yX10_drift cX10_drift 3 .int 7 [.ref (adr G (10, 0, 0)), .int x1] σ r (σ') := by
  refine CI.of (by decide +kernel) (Nat.le_of_ble_eq_true rfl) (fun Y hY F hR => ?_)
  unfold fX10_drift at h
  have F : Fx Y G cX10_drift RX10 7 := F
  refine u_lv (lv' := [(0, .ref (adr G (10, 0, 0))), (1, .int x1)]) [0, 1] rfl ?_
  refine u_iload_n (pc := 0) F dX10_drift_0 1 rfl rfl ?_
  refine u_iconst (v := 1) (pc := 1) F dX10_drift_1 (by decide) ?_
  refine u_icmp_lt (pc := 2) F 11 dX10_drift_2 (by decide) (fun c1 => ?_) (fun c1 => ?_)
  · rw [if_pos c1] at h
    refine u_ldc (v := -1000000002) (pc := 11) F dX10_drift_11 kc_10_94 ?_
    have h1 := Option.some.inj h
    obtain ⟨hj0, hr0⟩ := Prod.mk.inj h1
    subst hj0
    subst hr0
    exact hR _ _ rfl dX10_drift_13
  · rw [if_neg c1] at h
    refine u_iload_n (pc := 5) F dX10_drift_5 1 rfl rfl ?_
    refine u_bipush (v := 60) (pc := 6) F dX10_drift_6 (by decide) ?_
    refine u_icmp_le (pc := 8) F 14 dX10_drift_8 (by decide) (fun c2 => ?_) (fun c2 => ?_)
    · rw [if_pos c2] at h
      refine u_aload_n (pc := 14) F dX10_drift_14 0 rfl rfl ?_
      refine u_getO (pc := 15) F dX10_drift_15 (hL 10 0 0 (by decide) rfl) ck_10 fl_10_26 rfl (by decide) rfl ?_
      refine u_get (pc := 18) F dX10_drift_18 (hL 4 0 0 (by decide) rfl) ck_4 fl_10_126 rfl (by decide) rfl ?_
      refine u_if_ne (pc := 21) F 27 dX10_drift_21 (by decide) (fun c3 => ?_) (fun c3 => ?_)
      · rw [if_neg c3] at h
        refine u_aload_n (pc := 27) F dX10_drift_27 0 rfl rfl ?_
        refine u_getO (pc := 28) F dX10_drift_28 (hL 10 0 0 (by decide) rfl) ck_10 fl_10_35 rfl (by decide) rfl ?_
        refine u_get (pc := 31) F dX10_drift_31 (hL 7 0 0 (by decide) rfl) ck_7 fl_10_133 rfl (by decide) rfl ?_
        refine u_sipush (v := 9000) (pc := 34) F dX10_drift_34 (by decide) ?_
        refine u_icmp_le (pc := 37) F 43 dX10_drift_37 (by decide) (fun c4 => ?_) (fun c4 => ?_)
        · rw [if_pos c4] at h
          refine u_aload_n (pc := 43) F dX10_drift_43 0 rfl rfl ?_
          refine u_getO (pc := 44) F dX10_drift_44 (hL 10 0 0 (by decide) rfl) ck_10 fl_10_45 rfl (by decide) rfl ?_
          refine u_aload_n (pc := 47) F dX10_drift_47 0 rfl rfl ?_
          refine u_getO (pc := 48) F dX10_drift_48 (hL 10 0 0 (by decide) rfl) ck_10 fl_10_35 rfl (by decide) rfl ?_
          obtain ⟨q5, hq5, h⟩ := d_bd_some h
          refine u_callv (pc := 51) F (As := [.ref (adr G (7, 0, 0))]) (c_X3_remember G hL σ q5 hq5) yv_X3_remember ml_10_226 (hL 3 0 0 (by decide) rfl) rfl (by decide) rfl rfl (Nat.le_of_ble_eq_true rfl) dX10_drift_51 ?_
          refine u_iconst (v := 0) (pc := 54) F dX10_drift_54 (by decide) ?_
          refine u_istore_n (lv' := [(2, .int (0 : Int32)), (0, .ref (adr G (10, 0, 0))), (1, .int x1)]) (pc := 55) F dX10_drift_55 rfl hY (by decide) rfl ?_
          refine u_lv (lv' := [(0, .ref (adr G (10, 0, 0))), (1, .int x1), (2, .int (0 : Int32))]) [1, 2, 0] rfl ?_
          exact wX10_drift_56 Y G hL F hY r σ' hR 1000 q5 x1 (0 : Int32) h
        · rw [if_neg c4] at h
          refine u_ldc (v := -1000000004) (pc := 40) F dX10_drift_40 kc_10_102 ?_
          have h1 := Option.some.inj h
          obtain ⟨hj0, hr0⟩ := Prod.mk.inj h1
          subst hj0
          subst hr0
          exact hR _ _ rfl dX10_drift_42
      · rw [if_pos c3] at h
        refine u_ldc (v := -1000000003) (pc := 24) F dX10_drift_24 kc_10_225 ?_
        have h1 := Option.some.inj h
        obtain ⟨hj0, hr0⟩ := Prod.mk.inj h1
        subst hj0
        subst hr0
        exact hR _ _ rfl dX10_drift_26
    · rw [if_neg c2] at h
      refine u_ldc (v := -1000000002) (pc := 11) F dX10_drift_11 kc_10_94 ?_
      have h1 := Option.some.inj h
      obtain ⟨hj0, hr0⟩ := Prod.mk.inj h1
      subst hj0
      subst hr0
      exact hR _ _ rfl dX10_drift_13
/- RollingCodes.undo -/
def fX10_undo (σ : Mem) : Option (Int32 × Mem) :=
    if (σ 3 0 0 2) = 0 then (some ((-1000000003 : Int32), σ)) else (d_bd (fX3_takeBack σ) fun q2 => some (q2 3 0 0 2, q2))
set_option maxHeartbeats 4000000 in
set_option maxRecDepth 100000 in
theorem c_X10_undo (G : G0) (hL : In G) (σ : Mem) (r : Int32) (σ' : Mem) (h : fX10_undo σ = some (r, σ')) :
    CI G yX10_undo cX10_undo 1 .int 3 [.ref (adr G (10, 0, 0))] σ r (σ') := by
  refine CI.of (by decide +kernel) (Nat.le_of_ble_eq_true rfl) (fun Y hY F hR => ?_)
  unfold fX10_undo at h
  have F : Fx Y G cX10_undo RX10 3 := F
  refine u_lv (lv' := [(0, .ref (adr G (10, 0, 0)))]) [0] rfl ?_
  refine u_aload_n (pc := 0) F dX10_undo_0 0 rfl rfl ?_
  refine u_getO (pc := 1) F dX10_undo_1 (hL 10 0 0 (by decide) rfl) ck_10 fl_10_45 rfl (by decide) rfl ?_
  refine u_get (pc := 4) F dX10_undo_4 (hL 3 0 0 (by decide) rfl) ck_3 fl_10_156 rfl (by decide) rfl ?_
  refine u_if_ne (pc := 7) F 13 dX10_undo_7 (by decide) (fun c1 => ?_) (fun c1 => ?_)
  · rw [if_neg c1] at h
    refine u_aload_n (pc := 13) F dX10_undo_13 0 rfl rfl ?_
    refine u_getO (pc := 14) F dX10_undo_14 (hL 10 0 0 (by decide) rfl) ck_10 fl_10_45 rfl (by decide) rfl ?_
    refine u_aload_n (pc := 17) F dX10_undo_17 0 rfl rfl ?_
    refine u_getO (pc := 18) F dX10_undo_18 (hL 10 0 0 (by decide) rfl) ck_10 fl_10_35 rfl (by decide) rfl ?_
    obtain ⟨q2, hq2, h⟩ := d_bd_some h
    refine u_callv (pc := 21) F (As := [.ref (adr G (7, 0, 0))]) (c_X3_takeBack G hL σ q2 hq2) yv_X3_takeBack ml_10_253 (hL 3 0 0 (by decide) rfl) rfl (by decide) rfl rfl (Nat.le_of_ble_eq_true rfl) dX10_undo_21 ?_
    refine u_aload_n (pc := 24) F dX10_undo_24 0 rfl rfl ?_
    refine u_getO (pc := 25) F dX10_undo_25 (hL 10 0 0 (by decide) rfl) ck_10 fl_10_45 rfl (by decide) rfl ?_
    refine u_get (pc := 28) F dX10_undo_28 (hL 3 0 0 (by decide) rfl) ck_3 fl_10_156 rfl (by decide) rfl ?_
    have h1 := Option.some.inj h
    obtain ⟨hj0, hr0⟩ := Prod.mk.inj h1
    subst hj0
    subst hr0
    exact hR _ _ rfl dX10_undo_31
  · rw [if_pos c1] at h
    refine u_ldc (v := -1000000003) (pc := 10) F dX10_undo_10 kc_10_225 ?_
    have h1 := Option.some.inj h
    obtain ⟨hj0, hr0⟩ := Prod.mk.inj h1
    subst hj0
    subst hr0
    exact hR _ _ rfl dX10_undo_12
/- RollingCodes.wouldOpen -/
def fX10_wouldOpen_49  (σ : Mem) (s1 : Int32) (s2 : Int32) : Option (Int32 × Mem) :=
    d_bd (fX10_opensFrom σ s1 s2) fun q5 => some (q5.1, q5.2)
def fX10_wouldOpen_29  (σ : Mem) (x1 : Int32) (x2 : Int32) : Option (Int32 × Mem) :=
    if x2 = (-1 : Int32) then (d_ab x1 5 <| fX10_wouldOpen_49 σ x1 (σ 7 0 7 x1.toNatClampNeg)) else (fX10_wouldOpen_49 σ x1 x2)
def fX10_wouldOpen (σ : Mem) (x1 : Int32) (x2 : Int32) : Option (Int32 × Mem) :=
    d_bd (fX4_isFob (σ 4 0) x1) fun q1 => if q1 = 0 then (some ((-1000000001 : Int32), σ)) else (if x2 = (-1 : Int32) then (fX10_wouldOpen_29 σ x1 x2) else (d_bd (fX10_isPlace x2) fun q7 => if q7 = 0 then (some ((-1000000002 : Int32), σ)) else (fX10_wouldOpen_29 σ x1 x2)))
set_option maxHeartbeats 4000000 in
set_option maxRecDepth 100000 in
theorem wX10_wouldOpen_49 (Y : Dy) (G : G0) (hL : In G) (F : Fx Y G cX10_wouldOpen RX10 7) (hY : Y.2.2.2.2.2.2.2.2.2.2.2.1 = 3) (r : Int32) (σ' : Mem) (hR : ∀ (pc : Nat) (lv : List (Nat × Value)), narrow .int (.int r) = .int r → decode cX10_wouldOpen pc = .ok (.ireturn, 1) → U Y G σ' pc lv [.int r]) :
    ∀ (σ : Mem) (s1 : Int32) (s2 : Int32), fX10_wouldOpen_49 σ s1 s2 = some (r, σ') → U Y G σ 49 [] [.int s2, .int s1, .ref (adr G (10, 0, 0))] := by
  intro σ s1 s2 h
  unfold fX10_wouldOpen_49 at h
  obtain ⟨q5, hq5, h⟩ := d_bd_some h
  refine u_calli (pc := 49) F (As := [.int s1, .int s2]) (c_X10_opensFrom G hL s1 s2 σ q5.1 q5.2 hq5) yv_X10_opensFrom ml_10_256 (hL 10 0 0 (by decide) rfl) rfl (by decide) rfl rfl (Nat.le_of_ble_eq_true rfl) dX10_wouldOpen_49 ?_
  have h1 := Option.some.inj h
  obtain ⟨hj0, hr0⟩ := Prod.mk.inj h1
  subst hj0
  subst hr0
  exact hR _ _ rfl dX10_wouldOpen_52
set_option maxHeartbeats 4000000 in
set_option maxRecDepth 100000 in
theorem wX10_wouldOpen_29 (Y : Dy) (G : G0) (hL : In G) (F : Fx Y G cX10_wouldOpen RX10 7) (hY : Y.2.2.2.2.2.2.2.2.2.2.2.1 = 3) (r : Int32) (σ' : Mem) (hR : ∀ (pc : Nat) (lv : List (Nat × Value)), narrow .int (.int r) = .int r → decode cX10_wouldOpen pc = .ok (.ireturn, 1) → U Y G σ' pc lv [.int r]) :
    ∀ (σ : Mem) (x1 : Int32) (x2 : Int32), fX10_wouldOpen_29 σ x1 x2 = some (r, σ') → U Y G σ 29 [(0, .ref (adr G (10, 0, 0))), (1, .int x1), (2, .int x2)] [] := by
  intro σ x1 x2 h
  unfold fX10_wouldOpen_29 at h
  refine u_aload_n (pc := 29) F dX10_wouldOpen_29 0 rfl rfl ?_
  refine u_iload_n (pc := 30) F dX10_wouldOpen_30 1 rfl rfl ?_
  refine u_iload_n (pc := 31) F dX10_wouldOpen_31 2 rfl rfl ?_
  refine u_iconst (v := -1) (pc := 32) F dX10_wouldOpen_32 (by decide) ?_
  refine u_icmp_ne (pc := 33) F 48 dX10_wouldOpen_33 (by decide) (fun c4 => ?_) (fun c4 => ?_)
  · rw [if_neg c4] at h
    refine u_iload_n (pc := 48) F dX10_wouldOpen_48 2 rfl rfl ?_
    refine u_lv (lv' := []) [] rfl ?_
    exact wX10_wouldOpen_49 Y G hL F hY r σ' hR σ x1 x2 h
  · rw [if_pos c4] at h
    refine u_aload_n (pc := 36) F dX10_wouldOpen_36 0 rfl rfl ?_
    refine u_getO (pc := 37) F dX10_wouldOpen_37 (hL 10 0 0 (by decide) rfl) ck_10 fl_10_35 rfl (by decide) rfl ?_
    refine u_getA (pc := 40) F dX10_wouldOpen_40 (hL 7 0 0 (by decide) rfl) ck_7 fl_10_165 rfl (by decide) (by decide) ?_
    refine u_iload_n (pc := 43) F dX10_wouldOpen_43 1 rfl rfl ?_
    obtain ⟨b6, h⟩ := d_ab_some h
    refine u_aldI (pc := 44) F dX10_wouldOpen_44 (hL 7 0 7 (by decide) rfl) rfl b6 rfl ?_
    refine u_goto (pc := 45) F 49 dX10_wouldOpen_45 (by decide) ?_
    refine u_lv (lv' := []) [] rfl ?_
    exact wX10_wouldOpen_49 Y G hL F hY r σ' hR σ x1 (σ 7 0 7 x1.toNatClampNeg) h
set_option maxHeartbeats 4000000 in
set_option maxRecDepth 100000 in
theorem c_X10_wouldOpen (G : G0) (hL : In G) (x1 : Int32) (x2 : Int32) (σ : Mem) (r : Int32) (σ' : Mem) (h : fX10_wouldOpen σ x1 x2 = some (r, σ')) :
    CI G yX10_wouldOpen cX10_wouldOpen 3 .int 7 [.ref (adr G (10, 0, 0)), .int x1, .int x2] σ r (σ') := by
  refine CI.of (by decide +kernel) (Nat.le_of_ble_eq_true rfl) (fun Y hY F hR => ?_)
  unfold fX10_wouldOpen at h
  have F : Fx Y G cX10_wouldOpen RX10 7 := F
  refine u_lv (lv' := [(0, .ref (adr G (10, 0, 0))), (1, .int x1), (2, .int x2)]) [0, 1, 2] rfl ?_
  refine u_aload_n (pc := 0) F dX10_wouldOpen_0 0 rfl rfl ?_
  refine u_getO (pc := 1) F dX10_wouldOpen_1 (hL 10 0 0 (by decide) rfl) ck_10 fl_10_26 rfl (by decide) rfl ?_
  refine u_iload_n (pc := 4) F dX10_wouldOpen_4 1 rfl rfl ?_
  obtain ⟨q1, hq1, h⟩ := d_bd_some h
  refine u_calli (pc := 5) F (As := [.int x1]) (c_X4_isFob G hL 0 (by decide) x1 σ (σ 4 0) (rfl) q1 hq1) yv_X4_isFob ml_10_157 (hL 4 0 0 (by decide) rfl) rfl (by decide) rfl rfl (Nat.le_of_ble_eq_true rfl) dX10_wouldOpen_5 ?_
  refine u_if_ne (pc := 8) F 14 dX10_wouldOpen_8 (by decide) (fun c2 => ?_) (fun c2 => ?_)
  · rw [if_neg c2] at h
    refine u_iload_n (pc := 14) F dX10_wouldOpen_14 2 rfl rfl ?_
    refine u_iconst (v := -1) (pc := 15) F dX10_wouldOpen_15 (by decide) ?_
    refine u_icmp_eq (pc := 16) F 29 dX10_wouldOpen_16 (by decide) (fun c3 => ?_) (fun c3 => ?_)
    · rw [if_pos c3] at h
      exact wX10_wouldOpen_29 Y G hL F hY r σ' hR σ x1 x2 h
    · rw [if_neg c3] at h
      refine u_iload_n (pc := 19) F dX10_wouldOpen_19 2 rfl rfl ?_
      obtain ⟨q7, hq7, h⟩ := d_bd_some h
      refine u_callSi (pc := 20) F (As := [.int x2]) (c_X10_isPlace G hL x2 σ q7 hq7) ys_X10_isPlace ml_10_233 (by decide) rfl rfl (Nat.le_of_ble_eq_true rfl) dX10_wouldOpen_20 ?_
      refine u_if_ne (pc := 23) F 29 dX10_wouldOpen_23 (by decide) (fun c8 => ?_) (fun c8 => ?_)
      · rw [if_neg c8] at h
        exact wX10_wouldOpen_29 Y G hL F hY r σ' hR σ x1 x2 h
      · rw [if_pos c8] at h
        refine u_ldc (v := -1000000002) (pc := 26) F dX10_wouldOpen_26 kc_10_94 ?_
        have h1 := Option.some.inj h
        obtain ⟨hj0, hr0⟩ := Prod.mk.inj h1
        subst hj0
        subst hr0
        exact hR _ _ rfl dX10_wouldOpen_28
  · rw [if_pos c2] at h
    refine u_ldc (v := -1000000001) (pc := 11) F dX10_wouldOpen_11 kc_10_160 ?_
    have h1 := Option.some.inj h
    obtain ⟨hj0, hr0⟩ := Prod.mk.inj h1
    subst hj0
    subst hr0
    exact hR _ _ rfl dX10_wouldOpen_13
/- RollingCodes.ahead -/
def fX10_ahead (σ : Mem) (x1 : Int32) (x2 : Int32) : Option (Int32) :=
    d_bd (fX10_areKnown σ x1 x2) fun q1 => if q1 = 0 then (some (-1000000001 : Int32)) else (d_ab x2 5 <| d_bd (fX7_lastOf (σ 7 0) x1 x2) fun q4 => d_bd (fJ9_floorMod_7cf53 ((σ 7 0 8 x2.toNatClampNeg) - q4) (10000 : Int32)) fun q5 => some q5)
set_option maxHeartbeats 4000000 in
set_option maxRecDepth 100000 in
theorem c_X10_ahead (G : G0) (hL : In G) (x1 : Int32) (x2 : Int32) (σ : Mem) (r : Int32) (h : fX10_ahead σ x1 x2 = some r) :
    CI G yX10_ahead cX10_ahead 3 .int 3 [.ref (adr G (10, 0, 0)), .int x1, .int x2] σ r σ := by
  refine CI.of (by decide +kernel) (Nat.le_of_ble_eq_true rfl) (fun Y hY F hR => ?_)
  unfold fX10_ahead at h
  have F : Fx Y G cX10_ahead RX10 3 := F
  refine u_lv (lv' := [(0, .ref (adr G (10, 0, 0))), (1, .int x1), (2, .int x2)]) [0, 1, 2] rfl ?_
  refine u_aload_n (pc := 0) F dX10_ahead_0 0 rfl rfl ?_
  refine u_iload_n (pc := 1) F dX10_ahead_1 1 rfl rfl ?_
  refine u_iload_n (pc := 2) F dX10_ahead_2 2 rfl rfl ?_
  obtain ⟨q1, hq1, h⟩ := d_bd_some h
  refine u_calli (pc := 3) F (As := [.int x1, .int x2]) (c_X10_areKnown G hL x1 x2 σ q1 hq1) yv_X10_areKnown ml_10_208 (hL 10 0 0 (by decide) rfl) rfl (by decide) rfl rfl (Nat.le_of_ble_eq_true rfl) dX10_ahead_3 ?_
  refine u_if_ne (pc := 6) F 12 dX10_ahead_6 (by decide) (fun c2 => ?_) (fun c2 => ?_)
  · rw [if_neg c2] at h
    refine u_aload_n (pc := 12) F dX10_ahead_12 0 rfl rfl ?_
    refine u_getO (pc := 13) F dX10_ahead_13 (hL 10 0 0 (by decide) rfl) ck_10 fl_10_35 rfl (by decide) rfl ?_
    refine u_getA (pc := 16) F dX10_ahead_16 (hL 7 0 0 (by decide) rfl) ck_7 fl_10_174 rfl (by decide) (by decide) ?_
    refine u_iload_n (pc := 19) F dX10_ahead_19 2 rfl rfl ?_
    obtain ⟨b3, h⟩ := d_ab_some h
    refine u_aldI (pc := 20) F dX10_ahead_20 (hL 7 0 8 (by decide) rfl) rfl b3 rfl ?_
    refine u_aload_n (pc := 21) F dX10_ahead_21 0 rfl rfl ?_
    refine u_getO (pc := 22) F dX10_ahead_22 (hL 10 0 0 (by decide) rfl) ck_10 fl_10_35 rfl (by decide) rfl ?_
    refine u_iload_n (pc := 25) F dX10_ahead_25 1 rfl rfl ?_
    refine u_iload_n (pc := 26) F dX10_ahead_26 2 rfl rfl ?_
    obtain ⟨q4, hq4, h⟩ := d_bd_some h
    refine u_calli (pc := 27) F (As := [.int x1, .int x2]) (c_X7_lastOf G hL 0 (by decide) x1 x2 σ (σ 7 0) (rfl) q4 hq4) yv_X7_lastOf ml_10_212 (hL 7 0 0 (by decide) rfl) rfl (by decide) rfl rfl (Nat.le_of_ble_eq_true rfl) dX10_ahead_27 ?_
    refine u_isub (pc := 30) F dX10_ahead_30 ?_
    refine u_sipush (v := 10000) (pc := 31) F dX10_ahead_31 (by decide) ?_
    obtain ⟨q5, hq5, h⟩ := d_bd_some h
    refine u_callSi (pc := 34) F (As := [.int ((σ 7 0 8 x2.toNatClampNeg) - q4), .int (10000 : Int32)]) (c_J9_floorMod_7cf53 G hL ((σ 7 0 8 x2.toNatClampNeg) - q4) (10000 : Int32) σ q5 hq5) ys_J9_floorMod_7cf53 ml_10_259 (by decide) rfl rfl (Nat.le_of_ble_eq_true rfl) dX10_ahead_34 ?_
    have h1 := Option.some.inj h
    subst h1
    exact hR _ _ rfl dX10_ahead_37
  · rw [if_pos c2] at h
    refine u_ldc (v := -1000000001) (pc := 9) F dX10_ahead_9 kc_10_160 ?_
    have h1 := Option.some.inj h
    subst h1
    exact hR _ _ rfl dX10_ahead_11
/- RollingCodes.locked -/
def fX10_locked_14  : Nat → Mem → Int32 → Int32 → Int32 → Option (Int32 × Mem)
  | 0, _, _, _, _ => none
  | fu + 1, σ, x1, x2, x3 =>
    if x3 ≤ (60 : Int32) then (d_bd (fX7_copyFrom (σ 7 1) (σ 7 0)) fun q4 => d_lt (upM σ 7 1 q4) fun m5 => d_bd (fX7_pressedUnheard (m5 7 1) (m5 4 0) x2 x3) fun q6 => d_lt (upM m5 7 1 q6) fun m7 => d_bd (fX7_opensBeside (m7 7 1) (m7 4 0) x1 x2) fun q8 => d_lt (upM m7 7 1 q8.2) fun m9 => if q8.1 = 0 then (some (x3, m9)) else (d_lt (x3 + (1 : Int32)) fun v11 => fX10_locked_14 fu m9 x1 x2 v11)) else (some ((-1 : Int32), σ))
def fX10_locked (σ : Mem) (x1 : Int32) (x2 : Int32) : Option (Int32 × Mem) :=
    d_bd (fX10_areKnown σ x1 x2) fun q1 => if q1 = 0 then (some ((-1000000001 : Int32), σ)) else (fX10_locked_14 1000 σ x1 x2 (0 : Int32))
set_option maxHeartbeats 4000000 in
set_option maxRecDepth 100000 in
theorem wX10_locked_14 (Y : Dy) (G : G0) (hL : In G) (F : Fx Y G cX10_locked RX10 5) (hY : Y.2.2.2.2.2.2.2.2.2.2.2.1 = 4) (r : Int32) (σ' : Mem) (hR : ∀ (pc : Nat) (lv : List (Nat × Value)), narrow .int (.int r) = .int r → decode cX10_locked pc = .ok (.ireturn, 1) → U Y G σ' pc lv [.int r]) :
    ∀ (fu : Nat) (σ : Mem) (x1 : Int32) (x2 : Int32) (x3 : Int32), fX10_locked_14 fu σ x1 x2 x3 = some (r, σ') → U Y G σ 14 [(0, .ref (adr G (10, 0, 0))), (1, .int x1), (2, .int x2), (3, .int x3)] [] := by
  intro fu
  induction fu with
  | zero =>
    intro σ x1 x2 x3 h
    rw [fX10_locked_14] at h
    cases h
  | succ fu ih =>
    intro σ x1 x2 x3 h
    rw [fX10_locked_14] at h
    refine u_iload_n (pc := 14) F dX10_locked_14 3 rfl rfl ?_
    refine u_bipush (v := 60) (pc := 15) F dX10_locked_15 (by decide) ?_
    refine u_icmp_gt (pc := 17) F 60 dX10_locked_17 (by decide) (fun c3 => ?_) (fun c3 => ?_)
    · rw [if_neg c3] at h
      refine u_iconst (v := -1) (pc := 60) F dX10_locked_60 (by decide) ?_
      have h1 := Option.some.inj h
      obtain ⟨hj0, hr0⟩ := Prod.mk.inj h1
      subst hj0
      subst hr0
      exact hR _ _ rfl dX10_locked_61
    · rw [if_pos c3] at h
      refine u_aload_n (pc := 20) F dX10_locked_20 0 rfl rfl ?_
      refine u_getO (pc := 21) F dX10_locked_21 (hL 10 0 0 (by decide) rfl) ck_10 fl_10_39 rfl (by decide) rfl ?_
      refine u_aload_n (pc := 24) F dX10_locked_24 0 rfl rfl ?_
      refine u_getO (pc := 25) F dX10_locked_25 (hL 10 0 0 (by decide) rfl) ck_10 fl_10_35 rfl (by decide) rfl ?_
      obtain ⟨q4, hq4, h⟩ := d_bd_some h
      refine u_callv (pc := 28) F (As := [.ref (adr G (7, 0, 0))]) (c_X7_copyFrom G hL 1 (by decide) 0 (by decide) (by decide) σ (σ 7 1) (σ 7 0) (rfl) (rfl) q4 hq4) yv_X7_copyFrom ml_10_264 (hL 7 1 0 (by decide) rfl) rfl (by decide) rfl rfl (Nat.le_of_ble_eq_true rfl) dX10_locked_28 ?_
      obtain ⟨m5, hm5, h⟩ := d_lt_some h
      refine u_mem hm5 ?_
      refine u_aload_n (pc := 31) F dX10_locked_31 0 rfl rfl ?_
      refine u_getO (pc := 32) F dX10_locked_32 (hL 10 0 0 (by decide) rfl) ck_10 fl_10_39 rfl (by decide) rfl ?_
      refine u_iload_n (pc := 35) F dX10_locked_35 2 rfl rfl ?_
      refine u_iload_n (pc := 36) F dX10_locked_36 3 rfl rfl ?_
      obtain ⟨q6, hq6, h⟩ := d_bd_some h
      refine u_callv (pc := 37) F (As := [.int x2, .int x3]) (c_X7_pressedUnheard G hL 1 (by decide) x2 x3 m5 (m5 7 1) (m5 4 0) (rfl) (rfl) q6 hq6) yv_X7_pressedUnheard ml_10_266 (hL 7 1 0 (by decide) rfl) rfl (by decide) rfl rfl (Nat.le_of_ble_eq_true rfl) dX10_locked_37 ?_
      obtain ⟨m7, hm7, h⟩ := d_lt_some h
      refine u_mem hm7 ?_
      refine u_aload_n (pc := 40) F dX10_locked_40 0 rfl rfl ?_
      refine u_getO (pc := 41) F dX10_locked_41 (hL 10 0 0 (by decide) rfl) ck_10 fl_10_39 rfl (by decide) rfl ?_
      refine u_iload_n (pc := 44) F dX10_locked_44 1 rfl rfl ?_
      refine u_iload_n (pc := 45) F dX10_locked_45 2 rfl rfl ?_
      obtain ⟨q8, hq8, h⟩ := d_bd_some h
      refine u_calli (pc := 46) F (As := [.int x1, .int x2]) (c_X7_opensBeside G hL 1 (by decide) x1 x2 m7 (m7 7 1) (m7 4 0) (rfl) (rfl) q8.1 q8.2 hq8) yv_X7_opensBeside ml_10_269 (hL 7 1 0 (by decide) rfl) rfl (by decide) rfl rfl (Nat.le_of_ble_eq_true rfl) dX10_locked_46 ?_
      obtain ⟨m9, hm9, h⟩ := d_lt_some h
      refine u_mem hm9 ?_
      refine u_if_ne (pc := 49) F 54 dX10_locked_49 (by decide) (fun c10 => ?_) (fun c10 => ?_)
      · rw [if_neg c10] at h
        obtain ⟨v11, hv11, h⟩ := d_lt_some h
        refine u_iinc (lv' := [(3, .int v11), (0, .ref (adr G (10, 0, 0))), (1, .int x1), (2, .int x2)]) (pc := 54) F dX10_locked_54 3 rfl hv11.symm hY (by decide) rfl ?_
        refine u_goto (pc := 57) F 14 dX10_locked_57 (by decide) ?_
        refine u_lv (lv' := [(0, .ref (adr G (10, 0, 0))), (1, .int x1), (2, .int x2), (3, .int v11)]) [1, 2, 3, 0] rfl ?_
        exact ih m9 x1 x2 v11 h
      · rw [if_pos c10] at h
        refine u_iload_n (pc := 52) F dX10_locked_52 3 rfl rfl ?_
        have h1 := Option.some.inj h
        obtain ⟨hj0, hr0⟩ := Prod.mk.inj h1
        subst hj0
        subst hr0
        exact hR _ _ rfl dX10_locked_53
set_option maxHeartbeats 4000000 in
set_option maxRecDepth 100000 in
theorem c_X10_locked (G : G0) (hL : In G) (x1 : Int32) (x2 : Int32) (σ : Mem) (r : Int32) (σ' : Mem) (h : fX10_locked σ x1 x2 = some (r, σ')) :
    CI G yX10_locked cX10_locked 4 .int 5 [.ref (adr G (10, 0, 0)), .int x1, .int x2] σ r (σ') := by
  refine CI.of (by decide +kernel) (Nat.le_of_ble_eq_true rfl) (fun Y hY F hR => ?_)
  unfold fX10_locked at h
  have F : Fx Y G cX10_locked RX10 5 := F
  refine u_lv (lv' := [(0, .ref (adr G (10, 0, 0))), (1, .int x1), (2, .int x2)]) [0, 1, 2] rfl ?_
  refine u_aload_n (pc := 0) F dX10_locked_0 0 rfl rfl ?_
  refine u_iload_n (pc := 1) F dX10_locked_1 1 rfl rfl ?_
  refine u_iload_n (pc := 2) F dX10_locked_2 2 rfl rfl ?_
  obtain ⟨q1, hq1, h⟩ := d_bd_some h
  refine u_calli (pc := 3) F (As := [.int x1, .int x2]) (c_X10_areKnown G hL x1 x2 σ q1 hq1) yv_X10_areKnown ml_10_208 (hL 10 0 0 (by decide) rfl) rfl (by decide) rfl rfl (Nat.le_of_ble_eq_true rfl) dX10_locked_3 ?_
  refine u_if_ne (pc := 6) F 12 dX10_locked_6 (by decide) (fun c2 => ?_) (fun c2 => ?_)
  · rw [if_neg c2] at h
    refine u_iconst (v := 0) (pc := 12) F dX10_locked_12 (by decide) ?_
    refine u_istore_n (lv' := [(3, .int (0 : Int32)), (0, .ref (adr G (10, 0, 0))), (1, .int x1), (2, .int x2)]) (pc := 13) F dX10_locked_13 rfl hY (by decide) rfl ?_
    refine u_lv (lv' := [(0, .ref (adr G (10, 0, 0))), (1, .int x1), (2, .int x2), (3, .int (0 : Int32))]) [1, 2, 3, 0] rfl ?_
    exact wX10_locked_14 Y G hL F hY r σ' hR 1000 σ x1 x2 (0 : Int32) h
  · rw [if_pos c2] at h
    refine u_ldc (v := -1000000001) (pc := 9) F dX10_locked_9 kc_10_160 ?_
    have h1 := Option.some.inj h
    obtain ⟨hj0, hr0⟩ := Prod.mk.inj h1
    subst hj0
    subst hr0
    exact hR _ _ rfl dX10_locked_11
/- RollingCodes.takes -/
def fX10_takes_25  : Nat → Mem → Int32 → Int32 → Int32 → Option (Int32 × Mem)
  | 0, _, _, _, _ => none
  | fu + 1, σ, x1, x2, x3 =>
    if x3 ≤ (10 : Int32) then (d_bd (fX7_opensBeside (σ 7 1) (σ 4 0) x1 x2) fun q6 => d_lt (upM σ 7 1 q6.2) fun m7 => if q6.1 = 0 then (d_lt (x3 + (1 : Int32)) fun v9 => fX10_takes_25 fu m7 x1 x2 v9) else (some (x3, m7))) else (some ((-1 : Int32), σ))
def fX10_takes (σ : Mem) (x1 : Int32) (x2 : Int32) : Option (Int32 × Mem) :=
    d_bd (fX10_areKnown σ x1 x2) fun q1 => if q1 = 0 then (some ((-1000000001 : Int32), σ)) else (d_bd (fX7_copyFrom (σ 7 1) (σ 7 0)) fun q3 => d_lt (upM σ 7 1 q3) fun m4 => fX10_takes_25 1000 m4 x1 x2 (1 : Int32))
set_option maxHeartbeats 4000000 in
set_option maxRecDepth 100000 in
theorem wX10_takes_25 (Y : Dy) (G : G0) (hL : In G) (F : Fx Y G cX10_takes RX10 5) (hY : Y.2.2.2.2.2.2.2.2.2.2.2.1 = 4) (r : Int32) (σ' : Mem) (hR : ∀ (pc : Nat) (lv : List (Nat × Value)), narrow .int (.int r) = .int r → decode cX10_takes pc = .ok (.ireturn, 1) → U Y G σ' pc lv [.int r]) :
    ∀ (fu : Nat) (σ : Mem) (x1 : Int32) (x2 : Int32) (x3 : Int32), fX10_takes_25 fu σ x1 x2 x3 = some (r, σ') → U Y G σ 25 [(0, .ref (adr G (10, 0, 0))), (1, .int x1), (2, .int x2), (3, .int x3)] [] := by
  intro fu
  induction fu with
  | zero =>
    intro σ x1 x2 x3 h
    rw [fX10_takes_25] at h
    cases h
  | succ fu ih =>
    intro σ x1 x2 x3 h
    rw [fX10_takes_25] at h
    refine u_iload_n (pc := 25) F dX10_takes_25 3 rfl rfl ?_
    refine u_bipush (v := 10) (pc := 26) F dX10_takes_26 (by decide) ?_
    refine u_icmp_gt (pc := 28) F 51 dX10_takes_28 (by decide) (fun c5 => ?_) (fun c5 => ?_)
    · rw [if_neg c5] at h
      refine u_iconst (v := -1) (pc := 51) F dX10_takes_51 (by decide) ?_
      have h1 := Option.some.inj h
      obtain ⟨hj0, hr0⟩ := Prod.mk.inj h1
      subst hj0
      subst hr0
      exact hR _ _ rfl dX10_takes_52
    · rw [if_pos c5] at h
      refine u_aload_n (pc := 31) F dX10_takes_31 0 rfl rfl ?_
      refine u_getO (pc := 32) F dX10_takes_32 (hL 10 0 0 (by decide) rfl) ck_10 fl_10_39 rfl (by decide) rfl ?_
      refine u_iload_n (pc := 35) F dX10_takes_35 1 rfl rfl ?_
      refine u_iload_n (pc := 36) F dX10_takes_36 2 rfl rfl ?_
      obtain ⟨q6, hq6, h⟩ := d_bd_some h
      refine u_calli (pc := 37) F (As := [.int x1, .int x2]) (c_X7_opensBeside G hL 1 (by decide) x1 x2 σ (σ 7 1) (σ 4 0) (rfl) (rfl) q6.1 q6.2 hq6) yv_X7_opensBeside ml_10_269 (hL 7 1 0 (by decide) rfl) rfl (by decide) rfl rfl (Nat.le_of_ble_eq_true rfl) dX10_takes_37 ?_
      obtain ⟨m7, hm7, h⟩ := d_lt_some h
      refine u_mem hm7 ?_
      refine u_if_eq (pc := 40) F 45 dX10_takes_40 (by decide) (fun c8 => ?_) (fun c8 => ?_)
      · rw [if_pos c8] at h
        obtain ⟨v9, hv9, h⟩ := d_lt_some h
        refine u_iinc (lv' := [(3, .int v9), (0, .ref (adr G (10, 0, 0))), (1, .int x1), (2, .int x2)]) (pc := 45) F dX10_takes_45 3 rfl hv9.symm hY (by decide) rfl ?_
        refine u_goto (pc := 48) F 25 dX10_takes_48 (by decide) ?_
        refine u_lv (lv' := [(0, .ref (adr G (10, 0, 0))), (1, .int x1), (2, .int x2), (3, .int v9)]) [1, 2, 3, 0] rfl ?_
        exact ih m7 x1 x2 v9 h
      · rw [if_neg c8] at h
        refine u_iload_n (pc := 43) F dX10_takes_43 3 rfl rfl ?_
        have h1 := Option.some.inj h
        obtain ⟨hj0, hr0⟩ := Prod.mk.inj h1
        subst hj0
        subst hr0
        exact hR _ _ rfl dX10_takes_44
set_option maxHeartbeats 4000000 in
set_option maxRecDepth 100000 in
theorem c_X10_takes (G : G0) (hL : In G) (x1 : Int32) (x2 : Int32) (σ : Mem) (r : Int32) (σ' : Mem) (h : fX10_takes σ x1 x2 = some (r, σ')) :
    CI G yX10_takes cX10_takes 4 .int 5 [.ref (adr G (10, 0, 0)), .int x1, .int x2] σ r (σ') := by
  refine CI.of (by decide +kernel) (Nat.le_of_ble_eq_true rfl) (fun Y hY F hR => ?_)
  unfold fX10_takes at h
  have F : Fx Y G cX10_takes RX10 5 := F
  refine u_lv (lv' := [(0, .ref (adr G (10, 0, 0))), (1, .int x1), (2, .int x2)]) [0, 1, 2] rfl ?_
  refine u_aload_n (pc := 0) F dX10_takes_0 0 rfl rfl ?_
  refine u_iload_n (pc := 1) F dX10_takes_1 1 rfl rfl ?_
  refine u_iload_n (pc := 2) F dX10_takes_2 2 rfl rfl ?_
  obtain ⟨q1, hq1, h⟩ := d_bd_some h
  refine u_calli (pc := 3) F (As := [.int x1, .int x2]) (c_X10_areKnown G hL x1 x2 σ q1 hq1) yv_X10_areKnown ml_10_208 (hL 10 0 0 (by decide) rfl) rfl (by decide) rfl rfl (Nat.le_of_ble_eq_true rfl) dX10_takes_3 ?_
  refine u_if_ne (pc := 6) F 12 dX10_takes_6 (by decide) (fun c2 => ?_) (fun c2 => ?_)
  · rw [if_neg c2] at h
    refine u_aload_n (pc := 12) F dX10_takes_12 0 rfl rfl ?_
    refine u_getO (pc := 13) F dX10_takes_13 (hL 10 0 0 (by decide) rfl) ck_10 fl_10_39 rfl (by decide) rfl ?_
    refine u_aload_n (pc := 16) F dX10_takes_16 0 rfl rfl ?_
    refine u_getO (pc := 17) F dX10_takes_17 (hL 10 0 0 (by decide) rfl) ck_10 fl_10_35 rfl (by decide) rfl ?_
    obtain ⟨q3, hq3, h⟩ := d_bd_some h
    refine u_callv (pc := 20) F (As := [.ref (adr G (7, 0, 0))]) (c_X7_copyFrom G hL 1 (by decide) 0 (by decide) (by decide) σ (σ 7 1) (σ 7 0) (rfl) (rfl) q3 hq3) yv_X7_copyFrom ml_10_264 (hL 7 1 0 (by decide) rfl) rfl (by decide) rfl rfl (Nat.le_of_ble_eq_true rfl) dX10_takes_20 ?_
    obtain ⟨m4, hm4, h⟩ := d_lt_some h
    refine u_mem hm4 ?_
    refine u_iconst (v := 1) (pc := 23) F dX10_takes_23 (by decide) ?_
    refine u_istore_n (lv' := [(3, .int (1 : Int32)), (0, .ref (adr G (10, 0, 0))), (1, .int x1), (2, .int x2)]) (pc := 24) F dX10_takes_24 rfl hY (by decide) rfl ?_
    refine u_lv (lv' := [(0, .ref (adr G (10, 0, 0))), (1, .int x1), (2, .int x2), (3, .int (1 : Int32))]) [1, 2, 3, 0] rfl ?_
    exact wX10_takes_25 Y G hL F hY r σ' hR 1000 m4 x1 x2 (1 : Int32) h
  · rw [if_pos c2] at h
    refine u_ldc (v := -1000000001) (pc := 9) F dX10_takes_9 kc_10_160 ?_
    have h1 := Option.some.inj h
    obtain ⟨hj0, hr0⟩ := Prod.mk.inj h1
    subst hj0
    subst hr0
    exact hR _ _ rfl dX10_takes_11
/- RollingCodes.row -/
def fX10_row (σ : Mem) (x1 : Int32) : Option (Int32 × Mem) :=
    d_bd (fX6_find σ) fun q1 => if x1 = (-1 : Int32) then (some (q1.1, q1.2)) else (if x1 < 0 then (some ((-1 : Int32), q1.2)) else (if x1 < q1.1 then (d_ab x1 3 <| some (q1.2 6 0 2 x1.toNatClampNeg, q1.2)) else (some ((-1 : Int32), q1.2))))
set_option maxHeartbeats 4000000 in
set_option maxRecDepth 100000 in
theorem c_X10_row (G : G0) (hL : In G) (x1 : Int32) (σ : Mem) (r : Int32) (σ' : Mem) (h : fX10_row σ x1 = some (r, σ')) :
    CI G yX10_row cX10_row 3 .int 13 [.ref (adr G (10, 0, 0)), .int x1] σ r (σ') := by
  refine CI.of (by decide +kernel) (Nat.le_of_ble_eq_true rfl) (fun Y hY F hR => ?_)
  unfold fX10_row at h
  have F : Fx Y G cX10_row RX10 13 := F
  refine u_lv (lv' := [(0, .ref (adr G (10, 0, 0))), (1, .int x1)]) [0, 1] rfl ?_
  refine u_aload_n (pc := 0) F dX10_row_0 0 rfl rfl ?_
  refine u_getO (pc := 1) F dX10_row_1 (hL 10 0 0 (by decide) rfl) ck_10 fl_10_59 rfl (by decide) rfl ?_
  refine u_aload_n (pc := 4) F dX10_row_4 0 rfl rfl ?_
  refine u_getO (pc := 5) F dX10_row_5 (hL 10 0 0 (by decide) rfl) ck_10 fl_10_35 rfl (by decide) rfl ?_
  obtain ⟨q1, hq1, h⟩ := d_bd_some h
  refine u_calli (pc := 8) F (As := [.ref (adr G (7, 0, 0))]) (c_X6_find G hL σ q1.1 q1.2 hq1) yv_X6_find ml_10_272 (hL 6 0 0 (by decide) rfl) rfl (by decide) rfl rfl (Nat.le_of_ble_eq_true rfl) dX10_row_8 ?_
  refine u_istore_n (lv' := [(2, .int q1.1), (0, .ref (adr G (10, 0, 0))), (1, .int x1)]) (pc := 11) F dX10_row_11 rfl hY (by decide) rfl ?_
  refine u_iload_n (pc := 12) F dX10_row_12 2 rfl rfl ?_
  refine u_iconst (v := -1) (pc := 13) F dX10_row_13 (by decide) ?_
  refine u_icmp_ne (pc := 14) F 19 dX10_row_14 (by decide) (fun c2 => ?_) (fun c2 => ?_)
  · rw [if_neg c2] at h
    refine u_iload_n (pc := 19) F dX10_row_19 2 rfl rfl ?_
    refine u_if_lt (pc := 20) F 40 dX10_row_20 (by decide) (fun c3 => ?_) (fun c3 => ?_)
    · rw [if_pos c3] at h
      refine u_iconst (v := -1) (pc := 40) F dX10_row_40 (by decide) ?_
      have h1 := Option.some.inj h
      obtain ⟨hj0, hr0⟩ := Prod.mk.inj h1
      subst hj0
      subst hr0
      exact hR _ _ rfl dX10_row_41
    · rw [if_neg c3] at h
      refine u_iload_n (pc := 23) F dX10_row_23 2 rfl rfl ?_
      refine u_iload_n (pc := 24) F dX10_row_24 0 rfl rfl ?_
      refine u_icmp_ge (pc := 25) F 40 dX10_row_25 (by decide) (fun c4 => ?_) (fun c4 => ?_)
      · rw [if_neg c4] at h
        refine u_iconst (v := -1) (pc := 40) F dX10_row_40 (by decide) ?_
        have h1 := Option.some.inj h
        obtain ⟨hj0, hr0⟩ := Prod.mk.inj h1
        subst hj0
        subst hr0
        exact hR _ _ rfl dX10_row_41
      · rw [if_pos c4] at h
        refine u_aload_n (pc := 28) F dX10_row_28 1 rfl rfl ?_
        refine u_getO (pc := 29) F dX10_row_29 (hL 10 0 0 (by decide) rfl) ck_10 fl_10_59 rfl (by decide) rfl ?_
        refine u_getA (pc := 32) F dX10_row_32 (hL 6 0 0 (by decide) rfl) ck_6 fl_10_276 rfl (by decide) (by decide) ?_
        refine u_iload_n (pc := 35) F dX10_row_35 2 rfl rfl ?_
        obtain ⟨b5, h⟩ := d_ab_some h
        refine u_aldI (pc := 36) F dX10_row_36 (hL 6 0 2 (by decide) rfl) rfl b5 rfl ?_
        refine u_goto (pc := 37) F 41 dX10_row_37 (by decide) ?_
        have h1 := Option.some.inj h
        obtain ⟨hj0, hr0⟩ := Prod.mk.inj h1
        subst hj0
        subst hr0
        exact hR _ _ rfl dX10_row_41
  · rw [if_pos c2] at h
    refine u_iload_n (pc := 17) F dX10_row_17 0 rfl rfl ?_
    have h1 := Option.some.inj h
    obtain ⟨hj0, hr0⟩ := Prod.mk.inj h1
    subst hj0
    subst hr0
    exact hR _ _ rfl dX10_row_18
/- RollingCodes.couldSend -/
def fX10_couldSend_34  : Nat → Mem → Int32 → Int32 → Int32 → Option (Int32)
  | 0, _, _, _, _ => none
  | fu + 1, σ, x1, x2, x3 =>
    if x3 ≤ (40 : Int32) then (d_bd (fX7_codeAhead (σ 7 0) (σ 4 0) x1 x3) fun q4 => if q4 = x2 then (some (1 : Int32)) else (d_lt (x3 + (1 : Int32)) fun v6 => fX10_couldSend_34 fu σ x1 x2 v6)) else (some (0 : Int32))
def fX10_couldSend (σ : Mem) (x1 : Int32) (x2 : Int32) : Option (Int32) :=
    d_ab x1 5 <| if (σ 4 0 9 x1.toNatClampNeg) = (3 : Int32) then (d_bd (fX7_codeAhead (σ 7 0) (σ 4 0) x1 (0 : Int32)) fun q7 => if q7 = x2 then (some (1 : Int32)) else (some (0 : Int32))) else (fX10_couldSend_34 1000 σ x1 x2 (1 : Int32))
set_option maxHeartbeats 4000000 in
set_option maxRecDepth 100000 in
theorem wX10_couldSend_34 (Y : Dy) (G : G0) (hL : In G) (F : Fx Y G cX10_couldSend RX10 3) (hY : Y.2.2.2.2.2.2.2.2.2.2.2.1 = 4) (r : Int32) (σ : Mem) (hR : ∀ (pc : Nat) (lv : List (Nat × Value)), narrow .boolean (.int r) = .int r → decode cX10_couldSend pc = .ok (.ireturn, 1) → U Y G σ pc lv [.int r]) :
    ∀ (fu : Nat) (x1 : Int32) (x2 : Int32) (x3 : Int32), fX10_couldSend_34 fu σ x1 x2 x3 = some r → U Y G σ 34 [(0, .ref (adr G (10, 0, 0))), (1, .int x1), (2, .int x2), (3, .int x3)] [] := by
  intro fu
  induction fu with
  | zero =>
    intro x1 x2 x3 h
    rw [fX10_couldSend_34] at h
    cases h
  | succ fu ih =>
    intro x1 x2 x3 h
    rw [fX10_couldSend_34] at h
    refine u_iload_n (pc := 34) F dX10_couldSend_34 3 rfl rfl ?_
    refine u_bipush (v := 40) (pc := 35) F dX10_couldSend_35 (by decide) ?_
    refine u_icmp_gt (pc := 37) F 61 dX10_couldSend_37 (by decide) (fun c3 => ?_) (fun c3 => ?_)
    · rw [if_neg c3] at h
      refine u_iconst (v := 0) (pc := 61) F dX10_couldSend_61 (by decide) ?_
      have h1 := Option.some.inj h
      subst h1
      exact hR _ _ rfl dX10_couldSend_62
    · rw [if_pos c3] at h
      refine u_aload_n (pc := 40) F dX10_couldSend_40 0 rfl rfl ?_
      refine u_getO (pc := 41) F dX10_couldSend_41 (hL 10 0 0 (by decide) rfl) ck_10 fl_10_35 rfl (by decide) rfl ?_
      refine u_iload_n (pc := 44) F dX10_couldSend_44 1 rfl rfl ?_
      refine u_iload_n (pc := 45) F dX10_couldSend_45 3 rfl rfl ?_
      obtain ⟨q4, hq4, h⟩ := d_bd_some h
      refine u_calli (pc := 46) F (As := [.int x1, .int x3]) (c_X7_codeAhead G hL 0 (by decide) x1 x3 σ (σ 7 0) (σ 4 0) (rfl) (rfl) q4 hq4) yv_X7_codeAhead ml_10_285 (hL 7 0 0 (by decide) rfl) rfl (by decide) rfl rfl (Nat.le_of_ble_eq_true rfl) dX10_couldSend_46 ?_
      refine u_iload_n (pc := 49) F dX10_couldSend_49 2 rfl rfl ?_
      refine u_icmp_ne (pc := 50) F 55 dX10_couldSend_50 (by decide) (fun c5 => ?_) (fun c5 => ?_)
      · rw [if_neg c5] at h
        obtain ⟨v6, hv6, h⟩ := d_lt_some h
        refine u_iinc (lv' := [(3, .int v6), (0, .ref (adr G (10, 0, 0))), (1, .int x1), (2, .int x2)]) (pc := 55) F dX10_couldSend_55 3 rfl hv6.symm hY (by decide) rfl ?_
        refine u_goto (pc := 58) F 34 dX10_couldSend_58 (by decide) ?_
        refine u_lv (lv' := [(0, .ref (adr G (10, 0, 0))), (1, .int x1), (2, .int x2), (3, .int v6)]) [1, 2, 3, 0] rfl ?_
        exact ih x1 x2 v6 h
      · rw [if_pos c5] at h
        refine u_iconst (v := 1) (pc := 53) F dX10_couldSend_53 (by decide) ?_
        have h1 := Option.some.inj h
        subst h1
        exact hR _ _ rfl dX10_couldSend_54
set_option maxHeartbeats 4000000 in
set_option maxRecDepth 100000 in
theorem c_X10_couldSend (G : G0) (hL : In G) (x1 : Int32) (x2 : Int32) (σ : Mem) (r : Int32) (h : fX10_couldSend σ x1 x2 = some r) :
    CI G yX10_couldSend cX10_couldSend 4 .boolean 3 [.ref (adr G (10, 0, 0)), .int x1, .int x2] σ r σ := by
  refine CI.of (by decide +kernel) (Nat.le_of_ble_eq_true rfl) (fun Y hY F hR => ?_)
  unfold fX10_couldSend at h
  have F : Fx Y G cX10_couldSend RX10 3 := F
  refine u_lv (lv' := [(0, .ref (adr G (10, 0, 0))), (1, .int x1), (2, .int x2)]) [0, 1, 2] rfl ?_
  refine u_aload_n (pc := 0) F dX10_couldSend_0 0 rfl rfl ?_
  refine u_getO (pc := 1) F dX10_couldSend_1 (hL 10 0 0 (by decide) rfl) ck_10 fl_10_26 rfl (by decide) rfl ?_
  refine u_getA (pc := 4) F dX10_couldSend_4 (hL 4 0 0 (by decide) rfl) ck_4 fl_10_161 rfl (by decide) (by decide) ?_
  refine u_iload_n (pc := 7) F dX10_couldSend_7 1 rfl rfl ?_
  obtain ⟨b1, h⟩ := d_ab_some h
  refine u_aldI (pc := 8) F dX10_couldSend_8 (hL 4 0 9 (by decide) rfl) rfl b1 rfl ?_
  refine u_iconst (v := 3) (pc := 9) F dX10_couldSend_9 (by decide) ?_
  refine u_icmp_ne (pc := 10) F 32 dX10_couldSend_10 (by decide) (fun c2 => ?_) (fun c2 => ?_)
  · rw [if_neg c2] at h
    refine u_iconst (v := 1) (pc := 32) F dX10_couldSend_32 (by decide) ?_
    refine u_istore_n (lv' := [(3, .int (1 : Int32)), (0, .ref (adr G (10, 0, 0))), (1, .int x1), (2, .int x2)]) (pc := 33) F dX10_couldSend_33 rfl hY (by decide) rfl ?_
    refine u_lv (lv' := [(0, .ref (adr G (10, 0, 0))), (1, .int x1), (2, .int x2), (3, .int (1 : Int32))]) [1, 2, 3, 0] rfl ?_
    exact wX10_couldSend_34 Y G hL F hY r σ hR 1000 x1 x2 (1 : Int32) h
  · rw [if_pos c2] at h
    refine u_aload_n (pc := 13) F dX10_couldSend_13 0 rfl rfl ?_
    refine u_getO (pc := 14) F dX10_couldSend_14 (hL 10 0 0 (by decide) rfl) ck_10 fl_10_35 rfl (by decide) rfl ?_
    refine u_iload_n (pc := 17) F dX10_couldSend_17 1 rfl rfl ?_
    refine u_iconst (v := 0) (pc := 18) F dX10_couldSend_18 (by decide) ?_
    obtain ⟨q7, hq7, h⟩ := d_bd_some h
    refine u_calli (pc := 19) F (As := [.int x1, .int (0 : Int32)]) (c_X7_codeAhead G hL 0 (by decide) x1 (0 : Int32) σ (σ 7 0) (σ 4 0) (rfl) (rfl) q7 hq7) yv_X7_codeAhead ml_10_285 (hL 7 0 0 (by decide) rfl) rfl (by decide) rfl rfl (Nat.le_of_ble_eq_true rfl) dX10_couldSend_19 ?_
    refine u_iload_n (pc := 22) F dX10_couldSend_22 2 rfl rfl ?_
    refine u_icmp_ne (pc := 23) F 30 dX10_couldSend_23 (by decide) (fun c8 => ?_) (fun c8 => ?_)
    · rw [if_neg c8] at h
      refine u_iconst (v := 0) (pc := 30) F dX10_couldSend_30 (by decide) ?_
      have h1 := Option.some.inj h
      subst h1
      exact hR _ _ rfl dX10_couldSend_31
    · rw [if_pos c8] at h
      refine u_iconst (v := 1) (pc := 26) F dX10_couldSend_26 (by decide) ?_
      refine u_goto (pc := 27) F 31 dX10_couldSend_27 (by decide) ?_
      have h1 := Option.some.inj h
      subst h1
      exact hR _ _ rfl dX10_couldSend_31
/- RollingCodes.who -/
def fX10_who_14  : Nat → Mem → Int32 → Int32 → Int32 → Option (Int32)
  | 0, _, _, _, _ => none
  | fu + 1, σ, x1, x2, x3 =>
    if x3 < (σ 4 0 0 4) then (d_bd (fX10_couldSend σ x3 x1) fun q4 => if q4 = 0 then (d_lt (x3 + (1 : Int32)) fun v6 => fX10_who_14 fu σ x1 x2 v6) else (d_lt (x2 ||| ((1 : Int32) <<< (x3 &&& 31))) fun v7 => d_lt (x3 + (1 : Int32)) fun v8 => fX10_who_14 fu σ x1 v7 v8)) else (some x2)
def fX10_who (σ : Mem) (x1 : Int32) : Option (Int32) :=
    d_bd (fX10_isCode x1) fun q1 => if q1 = 0 then (some (-1000000002 : Int32)) else (fX10_who_14 1000 σ x1 (0 : Int32) (0 : Int32))
set_option maxHeartbeats 4000000 in
set_option maxRecDepth 100000 in
theorem wX10_who_14 (Y : Dy) (G : G0) (hL : In G) (F : Fx Y G cX10_who RX10 4) (hY : Y.2.2.2.2.2.2.2.2.2.2.2.1 = 4) (r : Int32) (σ : Mem) (hR : ∀ (pc : Nat) (lv : List (Nat × Value)), narrow .int (.int r) = .int r → decode cX10_who pc = .ok (.ireturn, 1) → U Y G σ pc lv [.int r]) :
    ∀ (fu : Nat) (x1 : Int32) (x2 : Int32) (x3 : Int32), fX10_who_14 fu σ x1 x2 x3 = some r → U Y G σ 14 [(0, .ref (adr G (10, 0, 0))), (1, .int x1), (2, .int x2), (3, .int x3)] [] := by
  intro fu
  induction fu with
  | zero =>
    intro x1 x2 x3 h
    rw [fX10_who_14] at h
    cases h
  | succ fu ih =>
    intro x1 x2 x3 h
    rw [fX10_who_14] at h
    refine u_iload_n (pc := 14) F dX10_who_14 3 rfl rfl ?_
    refine u_aload_n (pc := 15) F dX10_who_15 0 rfl rfl ?_
    refine u_getO (pc := 16) F dX10_who_16 (hL 10 0 0 (by decide) rfl) ck_10 fl_10_26 rfl (by decide) rfl ?_
    refine u_get (pc := 19) F dX10_who_19 (hL 4 0 0 (by decide) rfl) ck_4 fl_10_123 rfl (by decide) rfl ?_
    refine u_icmp_ge (pc := 22) F 46 dX10_who_22 (by decide) (fun c3 => ?_) (fun c3 => ?_)
    · rw [if_neg c3] at h
      refine u_iload_n (pc := 46) F dX10_who_46 2 rfl rfl ?_
      have h1 := Option.some.inj h
      subst h1
      exact hR _ _ rfl dX10_who_47
    · rw [if_pos c3] at h
      refine u_aload_n (pc := 25) F dX10_who_25 0 rfl rfl ?_
      refine u_iload_n (pc := 26) F dX10_who_26 3 rfl rfl ?_
      refine u_iload_n (pc := 27) F dX10_who_27 1 rfl rfl ?_
      obtain ⟨q4, hq4, h⟩ := d_bd_some h
      refine u_calli (pc := 28) F (As := [.int x3, .int x1]) (c_X10_couldSend G hL x3 x1 σ q4 hq4) yv_X10_couldSend ml_10_282 (hL 10 0 0 (by decide) rfl) rfl (by decide) rfl rfl (Nat.le_of_ble_eq_true rfl) dX10_who_28 ?_
      refine u_if_eq (pc := 31) F 40 dX10_who_31 (by decide) (fun c5 => ?_) (fun c5 => ?_)
      · rw [if_pos c5] at h
        obtain ⟨v6, hv6, h⟩ := d_lt_some h
        refine u_iinc (lv' := [(3, .int v6), (0, .ref (adr G (10, 0, 0))), (1, .int x1), (2, .int x2)]) (pc := 40) F dX10_who_40 3 rfl hv6.symm hY (by decide) rfl ?_
        refine u_goto (pc := 43) F 14 dX10_who_43 (by decide) ?_
        refine u_lv (lv' := [(0, .ref (adr G (10, 0, 0))), (1, .int x1), (2, .int x2), (3, .int v6)]) [1, 2, 3, 0] rfl ?_
        exact ih x1 x2 v6 h
      · rw [if_neg c5] at h
        refine u_iload_n (pc := 34) F dX10_who_34 2 rfl rfl ?_
        refine u_iconst (v := 1) (pc := 35) F dX10_who_35 (by decide) ?_
        refine u_iload_n (pc := 36) F dX10_who_36 3 rfl rfl ?_
        refine u_ishl (pc := 37) F dX10_who_37 ?_
        refine u_ior (pc := 38) F dX10_who_38 ?_
        obtain ⟨v7, hv7, h⟩ := d_lt_some h
        refine u_topi hv7 ?_
        refine u_istore_n (lv' := [(2, .int v7), (0, .ref (adr G (10, 0, 0))), (1, .int x1), (3, .int x3)]) (pc := 39) F dX10_who_39 rfl hY (by decide) rfl ?_
        obtain ⟨v8, hv8, h⟩ := d_lt_some h
        refine u_iinc (lv' := [(3, .int v8), (2, .int v7), (0, .ref (adr G (10, 0, 0))), (1, .int x1)]) (pc := 40) F dX10_who_40 3 rfl hv8.symm hY (by decide) rfl ?_
        refine u_goto (pc := 43) F 14 dX10_who_43 (by decide) ?_
        refine u_lv (lv' := [(0, .ref (adr G (10, 0, 0))), (1, .int x1), (2, .int v7), (3, .int v8)]) [2, 3, 1, 0] rfl ?_
        exact ih x1 v7 v8 h
set_option maxHeartbeats 4000000 in
set_option maxRecDepth 100000 in
theorem c_X10_who (G : G0) (hL : In G) (x1 : Int32) (σ : Mem) (r : Int32) (h : fX10_who σ x1 = some r) :
    CI G yX10_who cX10_who 4 .int 4 [.ref (adr G (10, 0, 0)), .int x1] σ r σ := by
  refine CI.of (by decide +kernel) (Nat.le_of_ble_eq_true rfl) (fun Y hY F hR => ?_)
  unfold fX10_who at h
  have F : Fx Y G cX10_who RX10 4 := F
  refine u_lv (lv' := [(0, .ref (adr G (10, 0, 0))), (1, .int x1)]) [0, 1] rfl ?_
  refine u_iload_n (pc := 0) F dX10_who_0 1 rfl rfl ?_
  obtain ⟨q1, hq1, h⟩ := d_bd_some h
  refine u_callSi (pc := 1) F (As := [.int x1]) (c_X10_isCode G hL x1 σ q1 hq1) ys_X10_isCode ml_10_279 (by decide) rfl rfl (Nat.le_of_ble_eq_true rfl) dX10_who_1 ?_
  refine u_if_ne (pc := 4) F 10 dX10_who_4 (by decide) (fun c2 => ?_) (fun c2 => ?_)
  · rw [if_neg c2] at h
    refine u_iconst (v := 0) (pc := 10) F dX10_who_10 (by decide) ?_
    refine u_istore_n (lv' := [(2, .int (0 : Int32)), (0, .ref (adr G (10, 0, 0))), (1, .int x1)]) (pc := 11) F dX10_who_11 rfl hY (by decide) rfl ?_
    refine u_iconst (v := 0) (pc := 12) F dX10_who_12 (by decide) ?_
    refine u_istore_n (lv' := [(3, .int (0 : Int32)), (2, .int (0 : Int32)), (0, .ref (adr G (10, 0, 0))), (1, .int x1)]) (pc := 13) F dX10_who_13 rfl hY (by decide) rfl ?_
    refine u_lv (lv' := [(0, .ref (adr G (10, 0, 0))), (1, .int x1), (2, .int (0 : Int32)), (3, .int (0 : Int32))]) [2, 3, 1, 0] rfl ?_
    exact wX10_who_14 Y G hL F hY r σ hR 1000 x1 (0 : Int32) (0 : Int32) h
  · rw [if_pos c2] at h
    refine u_ldc (v := -1000000002) (pc := 7) F dX10_who_7 kc_10_94 ?_
    have h1 := Option.some.inj h
    subst h1
    exact hR _ _ rfl dX10_who_9
/- RollingCodes.same -/
def fX10_same_32  : Nat → Mem → Int32 → Int32 → Int32 → Option (Int32)
  | 0, _, _, _, _ => none
  | fu + 1, σ, x1, x2, x3 =>
    if x3 ≤ (200 : Int32) then (d_bd (fX7_codeAhead (σ 7 0) (σ 4 0) x1 x3) fun q7 => d_bd (fX7_codeAhead (σ 7 0) (σ 4 0) x2 x3) fun q8 => if q7 = q8 then (some x3) else (d_lt (x3 + (1 : Int32)) fun v10 => fX10_same_32 fu σ x1 x2 v10)) else (some (-1 : Int32))
def fX10_same (σ : Mem) (x1 : Int32) (x2 : Int32) : Option (Int32) :=
    d_bd (fX4_isFob (σ 4 0) x1) fun q1 => if q1 = 0 then (some (-1000000001 : Int32)) else (d_bd (fX4_isFob (σ 4 0) x2) fun q3 => if q3 = 0 then (some (-1000000001 : Int32)) else (if x1 = x2 then (some (-1000000001 : Int32)) else (fX10_same_32 1000 σ x1 x2 (1 : Int32))))
set_option maxHeartbeats 4000000 in
set_option maxRecDepth 100000 in
theorem wX10_same_32 (Y : Dy) (G : G0) (hL : In G) (F : Fx Y G cX10_same RX10 3) (hY : Y.2.2.2.2.2.2.2.2.2.2.2.1 = 4) (r : Int32) (σ : Mem) (hR : ∀ (pc : Nat) (lv : List (Nat × Value)), narrow .int (.int r) = .int r → decode cX10_same pc = .ok (.ireturn, 1) → U Y G σ pc lv [.int r]) :
    ∀ (fu : Nat) (x1 : Int32) (x2 : Int32) (x3 : Int32), fX10_same_32 fu σ x1 x2 x3 = some r → U Y G σ 32 [(0, .ref (adr G (10, 0, 0))), (1, .int x1), (2, .int x2), (3, .int x3)] [] := by
  intro fu
  induction fu with
  | zero =>
    intro x1 x2 x3 h
    rw [fX10_same_32] at h
    cases h
  | succ fu ih =>
    intro x1 x2 x3 h
    rw [fX10_same_32] at h
    refine u_iload_n (pc := 32) F dX10_same_32 3 rfl rfl ?_
    refine u_sipush (v := 200) (pc := 33) F dX10_same_33 (by decide) ?_
    refine u_icmp_gt (pc := 36) F 68 dX10_same_36 (by decide) (fun c6 => ?_) (fun c6 => ?_)
    · rw [if_neg c6] at h
      refine u_iconst (v := -1) (pc := 68) F dX10_same_68 (by decide) ?_
      have h1 := Option.some.inj h
      subst h1
      exact hR _ _ rfl dX10_same_69
    · rw [if_pos c6] at h
      refine u_aload_n (pc := 39) F dX10_same_39 0 rfl rfl ?_
      refine u_getO (pc := 40) F dX10_same_40 (hL 10 0 0 (by decide) rfl) ck_10 fl_10_35 rfl (by decide) rfl ?_
      refine u_iload_n (pc := 43) F dX10_same_43 1 rfl rfl ?_
      refine u_iload_n (pc := 44) F dX10_same_44 3 rfl rfl ?_
      obtain ⟨q7, hq7, h⟩ := d_bd_some h
      refine u_calli (pc := 45) F (As := [.int x1, .int x3]) (c_X7_codeAhead G hL 0 (by decide) x1 x3 σ (σ 7 0) (σ 4 0) (rfl) (rfl) q7 hq7) yv_X7_codeAhead ml_10_285 (hL 7 0 0 (by decide) rfl) rfl (by decide) rfl rfl (Nat.le_of_ble_eq_true rfl) dX10_same_45 ?_
      refine u_aload_n (pc := 48) F dX10_same_48 0 rfl rfl ?_
      refine u_getO (pc := 49) F dX10_same_49 (hL 10 0 0 (by decide) rfl) ck_10 fl_10_35 rfl (by decide) rfl ?_
      refine u_iload_n (pc := 52) F dX10_same_52 2 rfl rfl ?_
      refine u_iload_n (pc := 53) F dX10_same_53 3 rfl rfl ?_
      obtain ⟨q8, hq8, h⟩ := d_bd_some h
      refine u_calli (pc := 54) F (As := [.int x2, .int x3]) (c_X7_codeAhead G hL 0 (by decide) x2 x3 σ (σ 7 0) (σ 4 0) (rfl) (rfl) q8 hq8) yv_X7_codeAhead ml_10_285 (hL 7 0 0 (by decide) rfl) rfl (by decide) rfl rfl (Nat.le_of_ble_eq_true rfl) dX10_same_54 ?_
      refine u_icmp_ne (pc := 57) F 62 dX10_same_57 (by decide) (fun c9 => ?_) (fun c9 => ?_)
      · rw [if_neg c9] at h
        obtain ⟨v10, hv10, h⟩ := d_lt_some h
        refine u_iinc (lv' := [(3, .int v10), (0, .ref (adr G (10, 0, 0))), (1, .int x1), (2, .int x2)]) (pc := 62) F dX10_same_62 3 rfl hv10.symm hY (by decide) rfl ?_
        refine u_goto (pc := 65) F 32 dX10_same_65 (by decide) ?_
        refine u_lv (lv' := [(0, .ref (adr G (10, 0, 0))), (1, .int x1), (2, .int x2), (3, .int v10)]) [1, 2, 3, 0] rfl ?_
        exact ih x1 x2 v10 h
      · rw [if_pos c9] at h
        refine u_iload_n (pc := 60) F dX10_same_60 3 rfl rfl ?_
        have h1 := Option.some.inj h
        subst h1
        exact hR _ _ rfl dX10_same_61
set_option maxHeartbeats 4000000 in
set_option maxRecDepth 100000 in
theorem c_X10_same (G : G0) (hL : In G) (x1 : Int32) (x2 : Int32) (σ : Mem) (r : Int32) (h : fX10_same σ x1 x2 = some r) :
    CI G yX10_same cX10_same 4 .int 3 [.ref (adr G (10, 0, 0)), .int x1, .int x2] σ r σ := by
  refine CI.of (by decide +kernel) (Nat.le_of_ble_eq_true rfl) (fun Y hY F hR => ?_)
  unfold fX10_same at h
  have F : Fx Y G cX10_same RX10 3 := F
  refine u_lv (lv' := [(0, .ref (adr G (10, 0, 0))), (1, .int x1), (2, .int x2)]) [0, 1, 2] rfl ?_
  refine u_aload_n (pc := 0) F dX10_same_0 0 rfl rfl ?_
  refine u_getO (pc := 1) F dX10_same_1 (hL 10 0 0 (by decide) rfl) ck_10 fl_10_26 rfl (by decide) rfl ?_
  refine u_iload_n (pc := 4) F dX10_same_4 1 rfl rfl ?_
  obtain ⟨q1, hq1, h⟩ := d_bd_some h
  refine u_calli (pc := 5) F (As := [.int x1]) (c_X4_isFob G hL 0 (by decide) x1 σ (σ 4 0) (rfl) q1 hq1) yv_X4_isFob ml_10_157 (hL 4 0 0 (by decide) rfl) rfl (by decide) rfl rfl (Nat.le_of_ble_eq_true rfl) dX10_same_5 ?_
  refine u_if_eq (pc := 8) F 27 dX10_same_8 (by decide) (fun c2 => ?_) (fun c2 => ?_)
  · rw [if_pos c2] at h
    refine u_ldc (v := -1000000001) (pc := 27) F dX10_same_27 kc_10_160 ?_
    have h1 := Option.some.inj h
    subst h1
    exact hR _ _ rfl dX10_same_29
  · rw [if_neg c2] at h
    refine u_aload_n (pc := 11) F dX10_same_11 0 rfl rfl ?_
    refine u_getO (pc := 12) F dX10_same_12 (hL 10 0 0 (by decide) rfl) ck_10 fl_10_26 rfl (by decide) rfl ?_
    refine u_iload_n (pc := 15) F dX10_same_15 2 rfl rfl ?_
    obtain ⟨q3, hq3, h⟩ := d_bd_some h
    refine u_calli (pc := 16) F (As := [.int x2]) (c_X4_isFob G hL 0 (by decide) x2 σ (σ 4 0) (rfl) q3 hq3) yv_X4_isFob ml_10_157 (hL 4 0 0 (by decide) rfl) rfl (by decide) rfl rfl (Nat.le_of_ble_eq_true rfl) dX10_same_16 ?_
    refine u_if_eq (pc := 19) F 27 dX10_same_19 (by decide) (fun c4 => ?_) (fun c4 => ?_)
    · rw [if_pos c4] at h
      refine u_ldc (v := -1000000001) (pc := 27) F dX10_same_27 kc_10_160 ?_
      have h1 := Option.some.inj h
      subst h1
      exact hR _ _ rfl dX10_same_29
    · rw [if_neg c4] at h
      refine u_iload_n (pc := 22) F dX10_same_22 1 rfl rfl ?_
      refine u_iload_n (pc := 23) F dX10_same_23 2 rfl rfl ?_
      refine u_icmp_ne (pc := 24) F 30 dX10_same_24 (by decide) (fun c5 => ?_) (fun c5 => ?_)
      · rw [if_neg c5] at h
        refine u_iconst (v := 1) (pc := 30) F dX10_same_30 (by decide) ?_
        refine u_istore_n (lv' := [(3, .int (1 : Int32)), (0, .ref (adr G (10, 0, 0))), (1, .int x1), (2, .int x2)]) (pc := 31) F dX10_same_31 rfl hY (by decide) rfl ?_
        refine u_lv (lv' := [(0, .ref (adr G (10, 0, 0))), (1, .int x1), (2, .int x2), (3, .int (1 : Int32))]) [1, 2, 3, 0] rfl ?_
        exact wX10_same_32 Y G hL F hY r σ hR 1000 x1 x2 (1 : Int32) h
      · rw [if_pos c5] at h
        refine u_ldc (v := -1000000001) (pc := 27) F dX10_same_27 kc_10_160 ?_
        have h1 := Option.some.inj h
        subst h1
        exact hR _ _ rfl dX10_same_29
/- RollingCodes.quiet -/
def fX10_quiet_30  : Nat → Mem → Int32 → Int32 → Int64 → Int32 → Option (Int32)
  | 0, _, _, _, _, _ => none
  | fu + 1, σ, x1, x2, x3, x5 =>
    if x5 < x1 then (d_lt ((x3 * (x2.toInt64)) / (100 : Int64)) fun v6 => d_lt (x5 + (1 : Int32)) fun v7 => fX10_quiet_30 fu σ x1 x2 v6 v7) else (some (x3.toInt32))
def fX10_quiet (σ : Mem) (x1 : Int32) (x2 : Int32) : Option (Int32) :=
    if x1 < 0 then (some (-1000000002 : Int32)) else (if x1 ≤ (60 : Int32) then (if x2 < 0 then (some (-1000000002 : Int32)) else (if x2 ≤ (100 : Int32) then (fX10_quiet_30 1000 σ x1 x2 (1000000000 : Int64) (0 : Int32)) else (some (-1000000002 : Int32)))) else (some (-1000000002 : Int32)))
set_option maxHeartbeats 4000000 in
set_option maxRecDepth 100000 in
theorem wX10_quiet_30 (Y : Dy) (G : G0) (hL : In G) (F : Fx Y G cX10_quiet RX10 1) (hY : Y.2.2.2.2.2.2.2.2.2.2.2.1 = 6) (r : Int32) (σ : Mem) (hR : ∀ (pc : Nat) (lv : List (Nat × Value)), narrow .int (.int r) = .int r → decode cX10_quiet pc = .ok (.ireturn, 1) → U Y G σ pc lv [.int r]) :
    ∀ (fu : Nat) (x1 : Int32) (x2 : Int32) (x3 : Int64) (x5 : Int32), fX10_quiet_30 fu σ x1 x2 x3 x5 = some r → U Y G σ 30 [(1, .int x1), (2, .int x2), (3, .long x3), (5, .int x5)] [] := by
  intro fu
  induction fu with
  | zero =>
    intro x1 x2 x3 x5 h
    rw [fX10_quiet_30] at h
    cases h
  | succ fu ih =>
    intro x1 x2 x3 x5 h
    rw [fX10_quiet_30] at h
    refine u_iload (pc := 30) F dX10_quiet_30 3 rfl ?_
    refine u_iload_n (pc := 32) F dX10_quiet_32 0 rfl rfl ?_
    refine u_icmp_ge (pc := 33) F 51 dX10_quiet_33 (by decide) (fun c5 => ?_) (fun c5 => ?_)
    · rw [if_neg c5] at h
      refine u_lload_n (pc := 51) F dX10_quiet_51 2 rfl rfl ?_
      refine u_l2i (pc := 52) F dX10_quiet_52 ?_
      have h1 := Option.some.inj h
      subst h1
      exact hR _ _ rfl dX10_quiet_53
    · rw [if_pos c5] at h
      refine u_lload_n (pc := 36) F dX10_quiet_36 2 rfl rfl ?_
      refine u_iload_n (pc := 37) F dX10_quiet_37 1 rfl rfl ?_
      refine u_i2l (pc := 38) F dX10_quiet_38 ?_
      refine u_lmul (pc := 39) F dX10_quiet_39 ?_
      refine u_ldc2 (v := 100) (pc := 40) F dX10_quiet_40 kc_10_290 ?_
      refine u_ldiv (pc := 43) F dX10_quiet_43 (by decide) ?_
      obtain ⟨v6, hv6, h⟩ := d_lt_some h
      refine u_topl hv6 ?_
      refine u_lstore_n (lv' := [(3, .long v6), (1, .int x1), (2, .int x2), (5, .int x5)]) (pc := 44) F dX10_quiet_44 rfl hY (by decide) rfl ?_
      obtain ⟨v7, hv7, h⟩ := d_lt_some h
      refine u_iinc (lv' := [(5, .int v7), (3, .long v6), (1, .int x1), (2, .int x2)]) (pc := 45) F dX10_quiet_45 3 rfl hv7.symm hY (by decide) rfl ?_
      refine u_goto (pc := 48) F 30 dX10_quiet_48 (by decide) ?_
      refine u_lv (lv' := [(1, .int x1), (2, .int x2), (3, .long v6), (5, .int v7)]) [2, 3, 1, 0] rfl ?_
      exact ih x1 x2 v6 v7 h
set_option maxHeartbeats 4000000 in
set_option maxRecDepth 100000 in
theorem c_X10_quiet (G : G0) (hL : In G) (x1 : Int32) (x2 : Int32) (σ : Mem) (r : Int32) (h : fX10_quiet σ x1 x2 = some r) :
    CI G yX10_quiet cX10_quiet 6 .int 1 [.ref (adr G (10, 0, 0)), .int x1, .int x2] σ r σ := by
  refine CI.of (by decide +kernel) (Nat.le_of_ble_eq_true rfl) (fun Y hY F hR => ?_)
  unfold fX10_quiet at h
  have F : Fx Y G cX10_quiet RX10 1 := F
  refine u_lv (lv' := [(0, .ref (adr G (10, 0, 0))), (1, .int x1), (2, .int x2)]) [0, 1, 2] rfl ?_
  refine u_iload_n (pc := 0) F dX10_quiet_0 1 rfl rfl ?_
  refine u_if_lt (pc := 1) F 20 dX10_quiet_1 (by decide) (fun c1 => ?_) (fun c1 => ?_)
  · rw [if_pos c1] at h
    refine u_ldc (v := -1000000002) (pc := 20) F dX10_quiet_20 kc_10_94 ?_
    have h1 := Option.some.inj h
    subst h1
    exact hR _ _ rfl dX10_quiet_22
  · rw [if_neg c1] at h
    refine u_iload_n (pc := 4) F dX10_quiet_4 1 rfl rfl ?_
    refine u_bipush (v := 60) (pc := 5) F dX10_quiet_5 (by decide) ?_
    refine u_icmp_gt (pc := 7) F 20 dX10_quiet_7 (by decide) (fun c2 => ?_) (fun c2 => ?_)
    · rw [if_neg c2] at h
      refine u_ldc (v := -1000000002) (pc := 20) F dX10_quiet_20 kc_10_94 ?_
      have h1 := Option.some.inj h
      subst h1
      exact hR _ _ rfl dX10_quiet_22
    · rw [if_pos c2] at h
      refine u_iload_n (pc := 10) F dX10_quiet_10 2 rfl rfl ?_
      refine u_if_lt (pc := 11) F 20 dX10_quiet_11 (by decide) (fun c3 => ?_) (fun c3 => ?_)
      · rw [if_pos c3] at h
        refine u_ldc (v := -1000000002) (pc := 20) F dX10_quiet_20 kc_10_94 ?_
        have h1 := Option.some.inj h
        subst h1
        exact hR _ _ rfl dX10_quiet_22
      · rw [if_neg c3] at h
        refine u_iload_n (pc := 14) F dX10_quiet_14 2 rfl rfl ?_
        refine u_bipush (v := 100) (pc := 15) F dX10_quiet_15 (by decide) ?_
        refine u_icmp_le (pc := 17) F 23 dX10_quiet_17 (by decide) (fun c4 => ?_) (fun c4 => ?_)
        · rw [if_pos c4] at h
          refine u_ldc2 (v := 1000000000) (pc := 23) F dX10_quiet_23 kc_10_288 ?_
          refine u_lstore_n (lv' := [(3, .long (1000000000 : Int64)), (0, .ref (adr G (10, 0, 0))), (1, .int x1), (2, .int x2)]) (pc := 26) F dX10_quiet_26 rfl hY (by decide) rfl ?_
          refine u_iconst (v := 0) (pc := 27) F dX10_quiet_27 (by decide) ?_
          refine u_istore (lv' := [(5, .int (0 : Int32)), (3, .long (1000000000 : Int64)), (0, .ref (adr G (10, 0, 0))), (1, .int x1), (2, .int x2)]) (pc := 28) F dX10_quiet_28 hY (by decide) rfl ?_
          refine u_lv (lv' := [(1, .int x1), (2, .int x2), (3, .long (1000000000 : Int64)), (5, .int (0 : Int32))]) [3, 4, 1, 0] rfl ?_
          exact wX10_quiet_30 Y G hL F hY r σ hR 1000 x1 x2 (1000000000 : Int64) (0 : Int32) h
        · rw [if_neg c4] at h
          refine u_ldc (v := -1000000002) (pc := 20) F dX10_quiet_20 kc_10_94 ?_
          have h1 := Option.some.inj h
          subst h1
          exact hR _ _ rfl dX10_quiet_22
/- RollingCodes.see -/
def fX10_see (σ : Mem) (x1 : Int32) (x2 : Int32) : Option (Int32 × Mem) :=
    if x1 < 0 then (some ((-1000000002 : Int32), σ)) else (if x1 < (1000 : Int32) then (d_bd (fX10_isCode x2) fun q3 => if q3 = 0 then (some ((-1000000002 : Int32), σ)) else (d_bd (fX8_add (σ 8 0) x1 x2) fun q5 => d_lt (upM σ 8 0 q5.2) fun m6 => if q5.1 = 0 then (some ((-1000000004 : Int32), m6)) else (some (m6 8 0 0 2, m6)))) else (some ((-1000000002 : Int32), σ)))
set_option maxHeartbeats 4000000 in
set_option maxRecDepth 100000 in
theorem c_X10_see (G : G0) (hL : In G) (x1 : Int32) (x2 : Int32) (σ : Mem) (r : Int32) (σ' : Mem) (h : fX10_see σ x1 x2 = some (r, σ')) :
    CI G yX10_see cX10_see 3 .int 3 [.ref (adr G (10, 0, 0)), .int x1, .int x2] σ r (σ') := by
  refine CI.of (by decide +kernel) (Nat.le_of_ble_eq_true rfl) (fun Y hY F hR => ?_)
  unfold fX10_see at h
  have F : Fx Y G cX10_see RX10 3 := F
  refine u_lv (lv' := [(0, .ref (adr G (10, 0, 0))), (1, .int x1), (2, .int x2)]) [0, 1, 2] rfl ?_
  refine u_iload_n (pc := 0) F dX10_see_0 1 rfl rfl ?_
  refine u_if_lt (pc := 1) F 18 dX10_see_1 (by decide) (fun c1 => ?_) (fun c1 => ?_)
  · rw [if_pos c1] at h
    refine u_ldc (v := -1000000002) (pc := 18) F dX10_see_18 kc_10_94 ?_
    have h1 := Option.some.inj h
    obtain ⟨hj0, hr0⟩ := Prod.mk.inj h1
    subst hj0
    subst hr0
    exact hR _ _ rfl dX10_see_20
  · rw [if_neg c1] at h
    refine u_iload_n (pc := 4) F dX10_see_4 1 rfl rfl ?_
    refine u_sipush (v := 1000) (pc := 5) F dX10_see_5 (by decide) ?_
    refine u_icmp_ge (pc := 8) F 18 dX10_see_8 (by decide) (fun c2 => ?_) (fun c2 => ?_)
    · rw [if_neg c2] at h
      refine u_ldc (v := -1000000002) (pc := 18) F dX10_see_18 kc_10_94 ?_
      have h1 := Option.some.inj h
      obtain ⟨hj0, hr0⟩ := Prod.mk.inj h1
      subst hj0
      subst hr0
      exact hR _ _ rfl dX10_see_20
    · rw [if_pos c2] at h
      refine u_iload_n (pc := 11) F dX10_see_11 2 rfl rfl ?_
      obtain ⟨q3, hq3, h⟩ := d_bd_some h
      refine u_callSi (pc := 12) F (As := [.int x2]) (c_X10_isCode G hL x2 σ q3 hq3) ys_X10_isCode ml_10_279 (by decide) rfl rfl (Nat.le_of_ble_eq_true rfl) dX10_see_12 ?_
      refine u_if_ne (pc := 15) F 21 dX10_see_15 (by decide) (fun c4 => ?_) (fun c4 => ?_)
      · rw [if_neg c4] at h
        refine u_aload_n (pc := 21) F dX10_see_21 0 rfl rfl ?_
        refine u_getO (pc := 22) F dX10_see_22 (hL 10 0 0 (by decide) rfl) ck_10 fl_10_66 rfl (by decide) rfl ?_
        refine u_iload_n (pc := 25) F dX10_see_25 1 rfl rfl ?_
        refine u_iload_n (pc := 26) F dX10_see_26 2 rfl rfl ?_
        obtain ⟨q5, hq5, h⟩ := d_bd_some h
        refine u_calli (pc := 27) F (As := [.int x1, .int x2]) (c_X8_add G hL x1 x2 σ (σ 8 0) (rfl) q5.1 q5.2 hq5) yv_X8_add ml_10_292 (hL 8 0 0 (by decide) rfl) rfl (by decide) rfl rfl (Nat.le_of_ble_eq_true rfl) dX10_see_27 ?_
        obtain ⟨m6, hm6, h⟩ := d_lt_some h
        refine u_mem hm6 ?_
        refine u_if_eq (pc := 30) F 43 dX10_see_30 (by decide) (fun c7 => ?_) (fun c7 => ?_)
        · rw [if_pos c7] at h
          refine u_ldc (v := -1000000004) (pc := 43) F dX10_see_43 kc_10_102 ?_
          have h1 := Option.some.inj h
          obtain ⟨hj0, hr0⟩ := Prod.mk.inj h1
          subst hj0
          subst hr0
          exact hR _ _ rfl dX10_see_45
        · rw [if_neg c7] at h
          refine u_aload_n (pc := 33) F dX10_see_33 0 rfl rfl ?_
          refine u_getO (pc := 34) F dX10_see_34 (hL 10 0 0 (by decide) rfl) ck_10 fl_10_66 rfl (by decide) rfl ?_
          refine u_get (pc := 37) F dX10_see_37 (hL 8 0 0 (by decide) rfl) ck_8 fl_10_152 rfl (by decide) rfl ?_
          refine u_goto (pc := 40) F 45 dX10_see_40 (by decide) ?_
          have h1 := Option.some.inj h
          obtain ⟨hj0, hr0⟩ := Prod.mk.inj h1
          subst hj0
          subst hr0
          exact hR _ _ rfl dX10_see_45
      · rw [if_pos c4] at h
        refine u_ldc (v := -1000000002) (pc := 18) F dX10_see_18 kc_10_94 ?_
        have h1 := Option.some.inj h
        obtain ⟨hj0, hr0⟩ := Prod.mk.inj h1
        subst hj0
        subst hr0
        exact hR _ _ rfl dX10_see_20
/- RollingCodes.secrets -/
def fX10_secrets (σ : Mem) (x1 : Int32) : Option (Int32) :=
    if x1 = (0 : Int32) then (d_bd (fX8_fitting (σ 8 0)) fun q2 => some q2) else (if x1 = (1 : Int32) then (d_bd (fX8_leastFitting (σ 8 0)) fun q4 => some q4) else (if x1 = (2 : Int32) then (d_bd (fX8_greatestFitting (σ 8 0)) fun q6 => some q6) else (some (-1000000002 : Int32))))
set_option maxHeartbeats 4000000 in
set_option maxRecDepth 100000 in
theorem c_X10_secrets (G : G0) (hL : In G) (x1 : Int32) (σ : Mem) (r : Int32) (h : fX10_secrets σ x1 = some r) :
    CI G yX10_secrets cX10_secrets 2 .int 2 [.ref (adr G (10, 0, 0)), .int x1] σ r σ := by
  refine CI.of (by decide +kernel) (Nat.le_of_ble_eq_true rfl) (fun Y hY F hR => ?_)
  unfold fX10_secrets at h
  have F : Fx Y G cX10_secrets RX10 2 := F
  refine u_lv (lv' := [(0, .ref (adr G (10, 0, 0))), (1, .int x1)]) [0, 1] rfl ?_
  refine u_iload_n (pc := 0) F dX10_secrets_0 1 rfl rfl ?_
  by_cases e1 : x1 = (0 : Int32)
  · rw [if_pos e1] at h
    refine u_table (pc := 1) F dX10_secrets_1 (off := 27) 28 (by rw [e1]; decide) (by rw [e1]; decide) (by rw [e1]; rfl) (by decide) ?_
    refine u_aload_n (pc := 28) F dX10_secrets_28 0 rfl rfl ?_
    refine u_getO (pc := 29) F dX10_secrets_29 (hL 10 0 0 (by decide) rfl) ck_10 fl_10_66 rfl (by decide) rfl ?_
    obtain ⟨q2, hq2, h⟩ := d_bd_some h
    refine u_calli (pc := 32) F (As := []) (c_X8_fitting G hL σ (σ 8 0) (rfl) q2 hq2) yv_X8_fitting ml_10_294 (hL 8 0 0 (by decide) rfl) rfl (by decide) rfl rfl (Nat.le_of_ble_eq_true rfl) dX10_secrets_32 ?_
    have h1 := Option.some.inj h
    subst h1
    exact hR _ _ rfl dX10_secrets_35
  rw [if_neg e1] at h
  by_cases e3 : x1 = (1 : Int32)
  · rw [if_pos e3] at h
    refine u_table (pc := 1) F dX10_secrets_1 (off := 35) 36 (by rw [e3]; decide) (by rw [e3]; decide) (by rw [e3]; rfl) (by decide) ?_
    refine u_aload_n (pc := 36) F dX10_secrets_36 0 rfl rfl ?_
    refine u_getO (pc := 37) F dX10_secrets_37 (hL 10 0 0 (by decide) rfl) ck_10 fl_10_66 rfl (by decide) rfl ?_
    obtain ⟨q4, hq4, h⟩ := d_bd_some h
    refine u_calli (pc := 40) F (As := []) (c_X8_leastFitting G hL σ (σ 8 0) (rfl) q4 hq4) yv_X8_leastFitting ml_10_297 (hL 8 0 0 (by decide) rfl) rfl (by decide) rfl rfl (Nat.le_of_ble_eq_true rfl) dX10_secrets_40 ?_
    have h1 := Option.some.inj h
    subst h1
    exact hR _ _ rfl dX10_secrets_43
  rw [if_neg e3] at h
  by_cases e5 : x1 = (2 : Int32)
  · rw [if_pos e5] at h
    refine u_table (pc := 1) F dX10_secrets_1 (off := 43) 44 (by rw [e5]; decide) (by rw [e5]; decide) (by rw [e5]; rfl) (by decide) ?_
    refine u_aload_n (pc := 44) F dX10_secrets_44 0 rfl rfl ?_
    refine u_getO (pc := 45) F dX10_secrets_45 (hL 10 0 0 (by decide) rfl) ck_10 fl_10_66 rfl (by decide) rfl ?_
    obtain ⟨q6, hq6, h⟩ := d_bd_some h
    refine u_calli (pc := 48) F (As := []) (c_X8_greatestFitting G hL σ (σ 8 0) (rfl) q6 hq6) yv_X8_greatestFitting ml_10_300 (hL 8 0 0 (by decide) rfl) rfl (by decide) rfl rfl (Nat.le_of_ble_eq_true rfl) dX10_secrets_48 ?_
    have h1 := Option.some.inj h
    subst h1
    exact hR _ _ rfl dX10_secrets_51
  rw [if_neg e5] at h
  refine u_tableOut (pc := 1) F dX10_secrets_1 52 (by
    have j0 : ¬ x1.toInt = 0 := i32_ne e1
    have j1 : ¬ x1.toInt = 1 := i32_ne e3
    have j2 : ¬ x1.toInt = 2 := i32_ne e5
    omega) (by decide) ?_
  refine u_ldc (v := -1000000002) (pc := 52) F dX10_secrets_52 kc_10_94 ?_
  have h1 := Option.some.inj h
  subst h1
  exact hR _ _ rfl dX10_secrets_54
/- RollingCodes.ask -/
def fX10_ask (σ : Mem) : Option (Int32 × Mem) :=
    d_bd (fX8_bestQuestion (σ 8 0)) fun q1 => d_lt (upM σ 8 0 q1.2) fun m2 => some (q1.1, m2)
set_option maxHeartbeats 4000000 in
set_option maxRecDepth 100000 in
theorem c_X10_ask (G : G0) (hL : In G) (σ : Mem) (r : Int32) (σ' : Mem) (h : fX10_ask σ = some (r, σ')) :
    CI G yX10_ask cX10_ask 1 .int 4 [.ref (adr G (10, 0, 0))] σ r (σ') := by
  refine CI.of (by decide +kernel) (Nat.le_of_ble_eq_true rfl) (fun Y hY F hR => ?_)
  unfold fX10_ask at h
  have F : Fx Y G cX10_ask RX10 4 := F
  refine u_lv (lv' := [(0, .ref (adr G (10, 0, 0)))]) [0] rfl ?_
  refine u_aload_n (pc := 0) F dX10_ask_0 0 rfl rfl ?_
  refine u_getO (pc := 1) F dX10_ask_1 (hL 10 0 0 (by decide) rfl) ck_10 fl_10_66 rfl (by decide) rfl ?_
  obtain ⟨q1, hq1, h⟩ := d_bd_some h
  refine u_calli (pc := 4) F (As := []) (c_X8_bestQuestion G hL σ (σ 8 0) (rfl) q1.1 q1.2 hq1) yv_X8_bestQuestion ml_10_303 (hL 8 0 0 (by decide) rfl) rfl (by decide) rfl rfl (Nat.le_of_ble_eq_true rfl) dX10_ask_4 ?_
  obtain ⟨m2, hm2, h⟩ := d_lt_some h
  refine u_mem hm2 ?_
  have h1 := Option.some.inj h
  obtain ⟨hj0, hr0⟩ := Prod.mk.inj h1
  subst hj0
  subst hr0
  exact hR _ _ rfl dX10_ask_7
/- RollingCodes.write -/
def fX10_write (σ : Mem) (x1 : Int32) (x2 : Int32) : Option (Int32 × Mem) :=
    d_bd (fX4_isGate (σ 4 0) x1) fun q1 => if q1 = 0 then (some ((-1000000001 : Int32), σ)) else (if x2 < 0 then (some ((-1000000002 : Int32), σ)) else (if x2 ≤ (9999 : Int32) then (d_bd (fX0_add (σ 0 0) x1 x2) fun q5 => d_lt (upM σ 0 0 q5.2) fun m6 => if q5.1 = 0 then (some ((-1000000004 : Int32), m6)) else (some (m6 0 0 0 2, m6))) else (some ((-1000000002 : Int32), σ))))
set_option maxHeartbeats 4000000 in
set_option maxRecDepth 100000 in
theorem c_X10_write (G : G0) (hL : In G) (x1 : Int32) (x2 : Int32) (σ : Mem) (r : Int32) (σ' : Mem) (h : fX10_write σ x1 x2 = some (r, σ')) :
    CI G yX10_write cX10_write 3 .int 2 [.ref (adr G (10, 0, 0)), .int x1, .int x2] σ r (σ') := by
  refine CI.of (by decide +kernel) (Nat.le_of_ble_eq_true rfl) (fun Y hY F hR => ?_)
  unfold fX10_write at h
  have F : Fx Y G cX10_write RX10 2 := F
  refine u_lv (lv' := [(0, .ref (adr G (10, 0, 0))), (1, .int x1), (2, .int x2)]) [0, 1, 2] rfl ?_
  refine u_aload_n (pc := 0) F dX10_write_0 0 rfl rfl ?_
  refine u_getO (pc := 1) F dX10_write_1 (hL 10 0 0 (by decide) rfl) ck_10 fl_10_26 rfl (by decide) rfl ?_
  refine u_iload_n (pc := 4) F dX10_write_4 1 rfl rfl ?_
  obtain ⟨q1, hq1, h⟩ := d_bd_some h
  refine u_calli (pc := 5) F (As := [.int x1]) (c_X4_isGate G hL 0 (by decide) x1 σ (σ 4 0) (rfl) q1 hq1) yv_X4_isGate ml_10_184 (hL 4 0 0 (by decide) rfl) rfl (by decide) rfl rfl (Nat.le_of_ble_eq_true rfl) dX10_write_5 ?_
  refine u_if_ne (pc := 8) F 14 dX10_write_8 (by decide) (fun c2 => ?_) (fun c2 => ?_)
  · rw [if_neg c2] at h
    refine u_iload_n (pc := 14) F dX10_write_14 2 rfl rfl ?_
    refine u_if_lt (pc := 15) F 25 dX10_write_15 (by decide) (fun c3 => ?_) (fun c3 => ?_)
    · rw [if_pos c3] at h
      refine u_ldc (v := -1000000002) (pc := 25) F dX10_write_25 kc_10_94 ?_
      have h1 := Option.some.inj h
      obtain ⟨hj0, hr0⟩ := Prod.mk.inj h1
      subst hj0
      subst hr0
      exact hR _ _ rfl dX10_write_27
    · rw [if_neg c3] at h
      refine u_iload_n (pc := 18) F dX10_write_18 2 rfl rfl ?_
      refine u_sipush (v := 9999) (pc := 19) F dX10_write_19 (by decide) ?_
      refine u_icmp_le (pc := 22) F 28 dX10_write_22 (by decide) (fun c4 => ?_) (fun c4 => ?_)
      · rw [if_pos c4] at h
        refine u_aload_n (pc := 28) F dX10_write_28 0 rfl rfl ?_
        refine u_getO (pc := 29) F dX10_write_29 (hL 10 0 0 (by decide) rfl) ck_10 fl_10_73 rfl (by decide) rfl ?_
        refine u_iload_n (pc := 32) F dX10_write_32 1 rfl rfl ?_
        refine u_iload_n (pc := 33) F dX10_write_33 2 rfl rfl ?_
        obtain ⟨q5, hq5, h⟩ := d_bd_some h
        refine u_calli (pc := 34) F (As := [.int x1, .int x2]) (c_X0_add G hL x1 x2 σ (σ 0 0) (rfl) q5.1 q5.2 hq5) yv_X0_add ml_10_306 (hL 0 0 0 (by decide) rfl) rfl (by decide) rfl rfl (Nat.le_of_ble_eq_true rfl) dX10_write_34 ?_
        obtain ⟨m6, hm6, h⟩ := d_lt_some h
        refine u_mem hm6 ?_
        refine u_if_eq (pc := 37) F 50 dX10_write_37 (by decide) (fun c7 => ?_) (fun c7 => ?_)
        · rw [if_pos c7] at h
          refine u_ldc (v := -1000000004) (pc := 50) F dX10_write_50 kc_10_102 ?_
          have h1 := Option.some.inj h
          obtain ⟨hj0, hr0⟩ := Prod.mk.inj h1
          subst hj0
          subst hr0
          exact hR _ _ rfl dX10_write_52
        · rw [if_neg c7] at h
          refine u_aload_n (pc := 40) F dX10_write_40 0 rfl rfl ?_
          refine u_getO (pc := 41) F dX10_write_41 (hL 10 0 0 (by decide) rfl) ck_10 fl_10_73 rfl (by decide) rfl ?_
          refine u_get (pc := 44) F dX10_write_44 (hL 0 0 0 (by decide) rfl) ck_0 fl_10_155 rfl (by decide) rfl ?_
          refine u_goto (pc := 47) F 52 dX10_write_47 (by decide) ?_
          have h1 := Option.some.inj h
          obtain ⟨hj0, hr0⟩ := Prod.mk.inj h1
          subst hj0
          subst hr0
          exact hR _ _ rfl dX10_write_52
      · rw [if_neg c4] at h
        refine u_ldc (v := -1000000002) (pc := 25) F dX10_write_25 kc_10_94 ?_
        have h1 := Option.some.inj h
        obtain ⟨hj0, hr0⟩ := Prod.mk.inj h1
        subst hj0
        subst hr0
        exact hR _ _ rfl dX10_write_27
  · rw [if_pos c2] at h
    refine u_ldc (v := -1000000001) (pc := 11) F dX10_write_11 kc_10_160 ?_
    have h1 := Option.some.inj h
    obtain ⟨hj0, hr0⟩ := Prod.mk.inj h1
    subst hj0
    subst hr0
    exact hR _ _ rfl dX10_write_13
/- RollingCodes.tear -/
def fX10_tear (σ : Mem) : Option (Int32 × Mem) :=
    d_lt ((σ 8 0 0 2) + (σ 0 0 0 2)) fun v1 => d_bd (fX8_clear (σ 8 0)) fun q2 => d_lt (upM σ 8 0 q2) fun m3 => d_bd (fX0_clear (m3 0 0)) fun q4 => d_lt (upM m3 0 0 q4) fun m5 => some (v1, m5)
set_option maxHeartbeats 4000000 in
set_option maxRecDepth 100000 in
theorem c_X10_tear (G : G0) (hL : In G) (σ : Mem) (r : Int32) (σ' : Mem) (h : fX10_tear σ = some (r, σ')) :
    CI G yX10_tear cX10_tear 2 .int 2 [.ref (adr G (10, 0, 0))] σ r (σ') := by
  refine CI.of (by decide +kernel) (Nat.le_of_ble_eq_true rfl) (fun Y hY F hR => ?_)
  unfold fX10_tear at h
  have F : Fx Y G cX10_tear RX10 2 := F
  refine u_lv (lv' := [(0, .ref (adr G (10, 0, 0)))]) [0] rfl ?_
  refine u_aload_n (pc := 0) F dX10_tear_0 0 rfl rfl ?_
  refine u_getO (pc := 1) F dX10_tear_1 (hL 10 0 0 (by decide) rfl) ck_10 fl_10_66 rfl (by decide) rfl ?_
  refine u_get (pc := 4) F dX10_tear_4 (hL 8 0 0 (by decide) rfl) ck_8 fl_10_152 rfl (by decide) rfl ?_
  refine u_aload_n (pc := 7) F dX10_tear_7 0 rfl rfl ?_
  refine u_getO (pc := 8) F dX10_tear_8 (hL 10 0 0 (by decide) rfl) ck_10 fl_10_73 rfl (by decide) rfl ?_
  refine u_get (pc := 11) F dX10_tear_11 (hL 0 0 0 (by decide) rfl) ck_0 fl_10_155 rfl (by decide) rfl ?_
  refine u_iadd (pc := 14) F dX10_tear_14 ?_
  obtain ⟨v1, hv1, h⟩ := d_lt_some h
  refine u_topi hv1 ?_
  refine u_istore_n (lv' := [(1, .int v1), (0, .ref (adr G (10, 0, 0)))]) (pc := 15) F dX10_tear_15 rfl hY (by decide) rfl ?_
  refine u_aload_n (pc := 16) F dX10_tear_16 1 rfl rfl ?_
  refine u_getO (pc := 17) F dX10_tear_17 (hL 10 0 0 (by decide) rfl) ck_10 fl_10_66 rfl (by decide) rfl ?_
  obtain ⟨q2, hq2, h⟩ := d_bd_some h
  refine u_callv (pc := 20) F (As := []) (c_X8_clear G hL σ (σ 8 0) (rfl) q2 hq2) yv_X8_clear ml_10_91 (hL 8 0 0 (by decide) rfl) rfl (by decide) rfl rfl (Nat.le_of_ble_eq_true rfl) dX10_tear_20 ?_
  obtain ⟨m3, hm3, h⟩ := d_lt_some h
  refine u_mem hm3 ?_
  refine u_aload_n (pc := 23) F dX10_tear_23 1 rfl rfl ?_
  refine u_getO (pc := 24) F dX10_tear_24 (hL 10 0 0 (by decide) rfl) ck_10 fl_10_73 rfl (by decide) rfl ?_
  obtain ⟨q4, hq4, h⟩ := d_bd_some h
  refine u_callv (pc := 27) F (As := []) (c_X0_clear G hL m3 (m3 0 0) (rfl) q4 hq4) yv_X0_clear ml_10_122 (hL 0 0 0 (by decide) rfl) rfl (by decide) rfl rfl (Nat.le_of_ble_eq_true rfl) dX10_tear_27 ?_
  obtain ⟨m5, hm5, h⟩ := d_lt_some h
  refine u_mem hm5 ?_
  refine u_iload_n (pc := 30) F dX10_tear_30 0 rfl rfl ?_
  have h1 := Option.some.inj h
  obtain ⟨hj0, hr0⟩ := Prod.mk.inj h1
  subst hj0
  subst hr0
  exact hR _ _ rfl dX10_tear_31
/- RollingCodes.judge -/
def fX10_judge (σ : Mem) : Option (Int32) :=
    d_bd (fX0_firstFalse (σ 0 0) (σ 7 0)) fun q1 => some q1
set_option maxHeartbeats 4000000 in
set_option maxRecDepth 100000 in
theorem c_X10_judge (G : G0) (hL : In G) (σ : Mem) (r : Int32) (h : fX10_judge σ = some r) :
    CI G yX10_judge cX10_judge 1 .int 2 [.ref (adr G (10, 0, 0))] σ r σ := by
  refine CI.of (by decide +kernel) (Nat.le_of_ble_eq_true rfl) (fun Y hY F hR => ?_)
  unfold fX10_judge at h
  have F : Fx Y G cX10_judge RX10 2 := F
  refine u_lv (lv' := [(0, .ref (adr G (10, 0, 0)))]) [0] rfl ?_
  refine u_aload_n (pc := 0) F dX10_judge_0 0 rfl rfl ?_
  refine u_getO (pc := 1) F dX10_judge_1 (hL 10 0 0 (by decide) rfl) ck_10 fl_10_73 rfl (by decide) rfl ?_
  refine u_aload_n (pc := 4) F dX10_judge_4 0 rfl rfl ?_
  refine u_getO (pc := 5) F dX10_judge_5 (hL 10 0 0 (by decide) rfl) ck_10 fl_10_35 rfl (by decide) rfl ?_
  obtain ⟨q1, hq1, h⟩ := d_bd_some h
  refine u_calli (pc := 8) F (As := [.ref (adr G (7, 0, 0))]) (c_X0_firstFalse G hL σ (σ 0 0) (σ 7 0) (rfl) (rfl) q1 hq1) yv_X0_firstFalse ml_10_307 (hL 0 0 0 (by decide) rfl) rfl (by decide) rfl rfl (Nat.le_of_ble_eq_true rfl) dX10_judge_8 ?_
  have h1 := Option.some.inj h
  subst h1
  exact hR _ _ rfl dX10_judge_11
/- RollingCodes.seed -/
def fX10_seed (σ : Mem) (x1 : Int32) : Option (Int32 × Mem) :=
    if x1 < 0 then (some ((-1000000002 : Int32), σ)) else (d_lt (σ 1 0 0 0) fun v2 => d_lt (upM σ 1 0 (wr (σ 1 0) 0 0 x1)) fun m3 => some (v2, m3))
set_option maxHeartbeats 4000000 in
set_option maxRecDepth 100000 in
theorem c_X10_seed (G : G0) (hL : In G) (x1 : Int32) (σ : Mem) (r : Int32) (σ' : Mem) (h : fX10_seed σ x1 = some (r, σ')) :
    CI G yX10_seed cX10_seed 3 .int 1 [.ref (adr G (10, 0, 0)), .int x1] σ r (σ') := by
  refine CI.of (by decide +kernel) (Nat.le_of_ble_eq_true rfl) (fun Y hY F hR => ?_)
  unfold fX10_seed at h
  have F : Fx Y G cX10_seed RX10 1 := F
  refine u_lv (lv' := [(0, .ref (adr G (10, 0, 0))), (1, .int x1)]) [0, 1] rfl ?_
  refine u_iload_n (pc := 0) F dX10_seed_0 1 rfl rfl ?_
  refine u_if_ge (pc := 1) F 7 dX10_seed_1 (by decide) (fun c1 => ?_) (fun c1 => ?_)
  · rw [if_neg c1] at h
    refine u_aload_n (pc := 7) F dX10_seed_7 0 rfl rfl ?_
    refine u_getO (pc := 8) F dX10_seed_8 (hL 10 0 0 (by decide) rfl) ck_10 fl_10_80 rfl (by decide) rfl ?_
    refine u_get (pc := 11) F dX10_seed_11 (hL 1 0 0 (by decide) rfl) ck_1 fl_10_310 rfl (by decide) rfl ?_
    obtain ⟨v2, hv2, h⟩ := d_lt_some h
    refine u_topi hv2 ?_
    refine u_istore_n (lv' := [(2, .int v2), (0, .ref (adr G (10, 0, 0))), (1, .int x1)]) (pc := 14) F dX10_seed_14 rfl hY (by decide) rfl ?_
    refine u_aload_n (pc := 15) F dX10_seed_15 1 rfl rfl ?_
    refine u_getO (pc := 16) F dX10_seed_16 (hL 10 0 0 (by decide) rfl) ck_10 fl_10_80 rfl (by decide) rfl ?_
    refine u_iload_n (pc := 19) F dX10_seed_19 2 rfl rfl ?_
    refine u_put (pc := 20) F dX10_seed_20 (hL 1 0 0 (by decide) rfl) ck_1 fl_10_310 rfl (by decide) rfl (ty0 := .int) (by decide +kernel) rfl rfl ?_
    obtain ⟨m3, hm3, h⟩ := d_lt_some h
    refine u_mem hm3 ?_
    refine u_iload_n (pc := 23) F dX10_seed_23 0 rfl rfl ?_
    have h1 := Option.some.inj h
    obtain ⟨hj0, hr0⟩ := Prod.mk.inj h1
    subst hj0
    subst hr0
    exact hR _ _ rfl dX10_seed_24
  · rw [if_pos c1] at h
    refine u_ldc (v := -1000000002) (pc := 4) F dX10_seed_4 kc_10_94 ?_
    have h1 := Option.some.inj h
    obtain ⟨hj0, hr0⟩ := Prod.mk.inj h1
    subst hj0
    subst hr0
    exact hR _ _ rfl dX10_seed_6
/- RollingCodes.keep -/
def fX10_keep (σ : Mem) (x1 : Int32) : Option (Int32 × Mem) :=
    d_bd (fX2_isImage σ x1) fun q1 => if q1 = 0 then (some ((-1000000001 : Int32), σ)) else (d_bd (fX2_take σ x1) fun q3 => d_bd (fX3_forget q3) fun q4 => some ((1 : Int32), q4))
set_option maxHeartbeats 4000000 in
set_option maxRecDepth 100000 in
theorem c_X10_keep (G : G0) (hL : In G) (x1 : Int32) (σ : Mem) (r : Int32) (σ' : Mem) (h : fX10_keep σ x1 = some (r, σ')) :
    CI G yX10_keep cX10_keep 2 .int 3 [.ref (adr G (10, 0, 0)), .int x1] σ r (σ') := by
  refine CI.of (by decide +kernel) (Nat.le_of_ble_eq_true rfl) (fun Y hY F hR => ?_)
  unfold fX10_keep at h
  have F : Fx Y G cX10_keep RX10 3 := F
  refine u_lv (lv' := [(0, .ref (adr G (10, 0, 0))), (1, .int x1)]) [0, 1] rfl ?_
  refine u_aload_n (pc := 0) F dX10_keep_0 0 rfl rfl ?_
  refine u_getO (pc := 1) F dX10_keep_1 (hL 10 0 0 (by decide) rfl) ck_10 fl_10_52 rfl (by decide) rfl ?_
  refine u_iload_n (pc := 4) F dX10_keep_4 1 rfl rfl ?_
  obtain ⟨q1, hq1, h⟩ := d_bd_some h
  refine u_calli (pc := 5) F (As := [.int x1]) (c_X2_isImage G hL x1 σ q1 hq1) yv_X2_isImage ml_10_313 (hL 2 0 0 (by decide) rfl) rfl (by decide) rfl rfl (Nat.le_of_ble_eq_true rfl) dX10_keep_5 ?_
  refine u_if_ne (pc := 8) F 14 dX10_keep_8 (by decide) (fun c2 => ?_) (fun c2 => ?_)
  · rw [if_neg c2] at h
    refine u_aload_n (pc := 14) F dX10_keep_14 0 rfl rfl ?_
    refine u_getO (pc := 15) F dX10_keep_15 (hL 10 0 0 (by decide) rfl) ck_10 fl_10_52 rfl (by decide) rfl ?_
    refine u_iload_n (pc := 18) F dX10_keep_18 1 rfl rfl ?_
    refine u_aload_n (pc := 19) F dX10_keep_19 0 rfl rfl ?_
    refine u_getO (pc := 20) F dX10_keep_20 (hL 10 0 0 (by decide) rfl) ck_10 fl_10_35 rfl (by decide) rfl ?_
    refine u_aload_n (pc := 23) F dX10_keep_23 0 rfl rfl ?_
    refine u_getO (pc := 24) F dX10_keep_24 (hL 10 0 0 (by decide) rfl) ck_10 fl_10_80 rfl (by decide) rfl ?_
    obtain ⟨q3, hq3, h⟩ := d_bd_some h
    refine u_callv (pc := 27) F (As := [.int x1, .ref (adr G (7, 0, 0)), .ref (adr G (1, 0, 0))]) (c_X2_take G hL x1 σ q3 hq3) yv_X2_take ml_10_316 (hL 2 0 0 (by decide) rfl) rfl (by decide) rfl rfl (Nat.le_of_ble_eq_true rfl) dX10_keep_27 ?_
    refine u_aload_n (pc := 30) F dX10_keep_30 0 rfl rfl ?_
    refine u_getO (pc := 31) F dX10_keep_31 (hL 10 0 0 (by decide) rfl) ck_10 fl_10_45 rfl (by decide) rfl ?_
    obtain ⟨q4, hq4, h⟩ := d_bd_some h
    refine u_callv (pc := 34) F (As := []) (c_X3_forget G hL q3 q4 hq4) yv_X3_forget ml_10_118 (hL 3 0 0 (by decide) rfl) rfl (by decide) rfl rfl (Nat.le_of_ble_eq_true rfl) dX10_keep_34 ?_
    refine u_iconst (v := 1) (pc := 37) F dX10_keep_37 (by decide) ?_
    have h1 := Option.some.inj h
    obtain ⟨hj0, hr0⟩ := Prod.mk.inj h1
    subst hj0
    subst hr0
    exact hR _ _ rfl dX10_keep_38
  · rw [if_pos c2] at h
    refine u_ldc (v := -1000000001) (pc := 11) F dX10_keep_11 kc_10_160 ?_
    have h1 := Option.some.inj h
    obtain ⟨hj0, hr0⟩ := Prod.mk.inj h1
    subst hj0
    subst hr0
    exact hR _ _ rfl dX10_keep_13
