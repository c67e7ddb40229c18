/- RollingCodes.feed -/
def fX10_feed (σ : Mem) (x1 : Int32) : Option (Int32 × Mem) :=
    if x1 < 0 then (some ((-1000000002 : Int32), σ)) else (if x1 ≤ (255 : Int32) then (d_bd (fX9_add (σ 9 0) x1) fun q3 => d_lt (upM σ 9 0 q3.2) fun m4 => if q3.1 = 0 then (some ((-1000000004 : Int32), m4)) else (some (m4 9 0 0 1, m4))) else (some ((-1000000002 : Int32), σ)))
set_option maxHeartbeats 4000000 in
set_option maxRecDepth 100000 in
theorem c_X10_feed (G : G0) (hL : In G) (x1 : Int32) (σ : Mem) (r : Int32) (σ' : Mem) (h : fX10_feed σ x1 = some (r, σ')) :
    CI G yX10_feed cX10_feed 2 .int 2 [.ref (adr G (10, 0, 0)), .int x1] σ r (σ') := by
  refine CI.of (by decide +kernel) (Nat.le_of_ble_eq_true rfl) (fun Y hY F hR => ?_)
  unfold fX10_feed at h
  have F : Fx Y G cX10_feed RX10 2 := F
  refine u_lv (lv' := [(0, .ref (adr G (10, 0, 0))), (1, .int x1)]) [0, 1] rfl ?_
  refine u_iload_n (pc := 0) F dX10_feed_0 1 rfl rfl ?_
  refine u_if_lt (pc := 1) F 11 dX10_feed_1 (by decide) (fun c1 => ?_) (fun c1 => ?_)
  · rw [if_pos c1] at h
    refine u_ldc (v := -1000000002) (pc := 11) F dX10_feed_11 kc_10_94 ?_
    have h1 := Option.some.inj h
    obtain ⟨hj0, hr0⟩ := Prod.mk.inj h1
    subst hj0
    subst hr0
    exact hR _ _ rfl dX10_feed_13
  · rw [if_neg c1] at h
    refine u_iload_n (pc := 4) F dX10_feed_4 1 rfl rfl ?_
    refine u_sipush (v := 255) (pc := 5) F dX10_feed_5 (by decide) ?_
    refine u_icmp_le (pc := 8) F 14 dX10_feed_8 (by decide) (fun c2 => ?_) (fun c2 => ?_)
    · rw [if_pos c2] at h
      refine u_aload_n (pc := 14) F dX10_feed_14 0 rfl rfl ?_
      refine u_getO (pc := 15) F dX10_feed_15 (hL 10 0 0 (by decide) rfl) ck_10 fl_10_10 rfl (by decide) rfl ?_
      refine u_iload_n (pc := 18) F dX10_feed_18 1 rfl rfl ?_
      obtain ⟨q3, hq3, h⟩ := d_bd_some h
      refine u_calli (pc := 19) F (As := [.int x1]) (c_X9_add G hL x1 σ (σ 9 0) (rfl) q3.1 q3.2 hq3) yv_X9_add ml_10_95 (hL 9 0 0 (by decide) rfl) rfl (by decide) rfl rfl (Nat.le_of_ble_eq_true rfl) dX10_feed_19 ?_
      obtain ⟨m4, hm4, h⟩ := d_lt_some h
      refine u_mem hm4 ?_
      refine u_if_eq (pc := 22) F 35 dX10_feed_22 (by decide) (fun c5 => ?_) (fun c5 => ?_)
      · rw [if_pos c5] at h
        refine u_ldc (v := -1000000004) (pc := 35) F dX10_feed_35 kc_10_102 ?_
        have h1 := Option.some.inj h
        obtain ⟨hj0, hr0⟩ := Prod.mk.inj h1
        subst hj0
        subst hr0
        exact hR _ _ rfl dX10_feed_37
      · rw [if_neg c5] at h
        refine u_aload_n (pc := 25) F dX10_feed_25 0 rfl rfl ?_
        refine u_getO (pc := 26) F dX10_feed_26 (hL 10 0 0 (by decide) rfl) ck_10 fl_10_10 rfl (by decide) rfl ?_
        refine u_get (pc := 29) F dX10_feed_29 (hL 9 0 0 (by decide) rfl) ck_9 fl_10_99 rfl (by decide) rfl ?_
        refine u_goto (pc := 32) F 37 dX10_feed_32 (by decide) ?_
        have h1 := Option.some.inj h
        obtain ⟨hj0, hr0⟩ := Prod.mk.inj h1
        subst hj0
        subst hr0
        exact hR _ _ rfl dX10_feed_37
    · rw [if_neg c2] at h
      refine u_ldc (v := -1000000002) (pc := 11) F dX10_feed_11 kc_10_94 ?_
      have h1 := Option.some.inj h
      obtain ⟨hj0, hr0⟩ := Prod.mk.inj h1
      subst hj0
      subst hr0
      exact hR _ _ rfl dX10_feed_13
/- RollingCodes.street -/
def fX10_street (σ : Mem) : Option (Int32 × Mem) :=
    d_bd (fX5_read (σ 5 0) (σ 4 1) (σ 9 0)) fun q1 => d_lt (upM (upM σ 5 0 q1.1) 4 1 q1.2) fun m2 => d_bd (fX9_clear (m2 9 0)) fun q3 => d_lt (upM m2 9 0 q3) fun m4 => d_lt (upM m4 10 0 (wr (m4 10 0) 0 11 (m4 5 0 0 4))) fun m5 => if (m5 5 0 0 3) = 0 then (d_bd (fX4_copyFrom (m5 4 0) (m5 4 1)) fun q7 => d_lt (upM m5 4 0 q7) fun m8 => d_bd (fX7_begin (m8 7 0) (m8 4 0)) fun q9 => d_lt (upM m8 7 0 q9) fun m10 => d_bd (fX3_forget m10) fun q11 => d_bd (fX2_forget q11) fun q12 => d_bd (fX8_clear (q12 8 0)) fun q13 => d_lt (upM q12 8 0 q13) fun m14 => d_bd (fX0_clear (m14 0 0)) fun q15 => d_lt (upM m14 0 0 q15) fun m16 => some (m16 4 0 0 4, m16)) else (some ((-10 : Int32) - (m5 5 0 0 3), m5))
set_option maxHeartbeats 4000000 in
set_option maxRecDepth 100000 in
theorem c_X10_street (G : G0) (hL : In G) (σ : Mem) (r : Int32) (σ' : Mem) (h : fX10_street σ = some (r, σ')) :
    CI G yX10_street cX10_street 1 .int 7 [.ref (adr G (10, 0, 0))] σ r (σ') := by
  refine CI.of (by decide +kernel) (Nat.le_of_ble_eq_true rfl) (fun Y hY F hR => ?_)
  unfold fX10_street at h
  have F : Fx Y G cX10_street RX10 7 := F
  refine u_lv (lv' := [(0, .ref (adr G (10, 0, 0)))]) [0] rfl ?_
  refine u_aload_n (pc := 0) F dX10_street_0 0 rfl rfl ?_
  refine u_getO (pc := 1) F dX10_street_1 (hL 10 0 0 (by decide) rfl) ck_10 fl_10_19 rfl (by decide) rfl ?_
  refine u_aload_n (pc := 4) F dX10_street_4 0 rfl rfl ?_
  refine u_getO (pc := 5) F dX10_street_5 (hL 10 0 0 (by decide) rfl) ck_10 fl_10_10 rfl (by decide) rfl ?_
  obtain ⟨q1, hq1, h⟩ := d_bd_some h
  refine u_callv (pc := 8) F (As := [.ref (adr G (9, 0, 0))]) (c_X5_read G hL σ (σ 5 0) (σ 4 1) (σ 9 0) (rfl) (rfl) (rfl) q1.1 q1.2 hq1) yv_X5_read ml_10_103 (hL 5 0 0 (by decide) rfl) rfl (by decide) rfl rfl (Nat.le_of_ble_eq_true rfl) dX10_street_8 ?_
  obtain ⟨m2, hm2, h⟩ := d_lt_some h
  refine u_mem hm2 ?_
  refine u_aload_n (pc := 11) F dX10_street_11 0 rfl rfl ?_
  refine u_getO (pc := 12) F dX10_street_12 (hL 10 0 0 (by decide) rfl) ck_10 fl_10_10 rfl (by decide) rfl ?_
  obtain ⟨q3, hq3, h⟩ := d_bd_some h
  refine u_callv (pc := 15) F (As := []) (c_X9_clear G hL m2 (m2 9 0) (rfl) q3 hq3) yv_X9_clear ml_10_107 (hL 9 0 0 (by decide) rfl) rfl (by decide) rfl rfl (Nat.le_of_ble_eq_true rfl) dX10_street_15 ?_
  obtain ⟨m4, hm4, h⟩ := d_lt_some h
  refine u_mem hm4 ?_
  refine u_aload_n (pc := 18) F dX10_street_18 0 rfl rfl ?_
  refine u_aload_n (pc := 19) F dX10_street_19 0 rfl rfl ?_
  refine u_getO (pc := 20) F dX10_street_20 (hL 10 0 0 (by decide) rfl) ck_10 fl_10_19 rfl (by decide) rfl ?_
  refine u_get (pc := 23) F dX10_street_23 (hL 5 0 0 (by decide) rfl) ck_5 fl_10_108 rfl (by decide) rfl ?_
  refine u_put (pc := 26) F dX10_street_26 (hL 10 0 0 (by decide) rfl) ck_10 fl_10_84 rfl (by decide) rfl (ty0 := .int) (by decide +kernel) rfl rfl ?_
  obtain ⟨m5, hm5, h⟩ := d_lt_some h
  refine u_mem hm5 ?_
  refine u_aload_n (pc := 29) F dX10_street_29 0 rfl rfl ?_
  refine u_getO (pc := 30) F dX10_street_30 (hL 10 0 0 (by decide) rfl) ck_10 fl_10_19 rfl (by decide) rfl ?_
  refine u_get (pc := 33) F dX10_street_33 (hL 5 0 0 (by decide) rfl) ck_5 fl_10_109 rfl (by decide) rfl ?_
  refine u_if_eq (pc := 36) F 50 dX10_street_36 (by decide) (fun c6 => ?_) (fun c6 => ?_)
  · rw [if_pos c6] at h
    refine u_aload_n (pc := 50) F dX10_street_50 0 rfl rfl ?_
    refine u_getO (pc := 51) F dX10_street_51 (hL 10 0 0 (by decide) rfl) ck_10 fl_10_26 rfl (by decide) rfl ?_
    refine u_aload_n (pc := 54) F dX10_street_54 0 rfl rfl ?_
    refine u_getO (pc := 55) F dX10_street_55 (hL 10 0 0 (by decide) rfl) ck_10 fl_10_19 rfl (by decide) rfl ?_
    refine u_getO (pc := 58) F dX10_street_58 (hL 5 0 0 (by decide) rfl) ck_5 fl_10_112 rfl (by decide) rfl ?_
    obtain ⟨q7, hq7, h⟩ := d_bd_some h
    refine u_callv (pc := 61) F (As := [.ref (adr G (4, 1, 0))]) (c_X4_copyFrom G hL 0 (by decide) 1 (by decide) (by decide) m5 (m5 4 0) (m5 4 1) (rfl) (rfl) q7 hq7) yv_X4_copyFrom ml_10_115 (hL 4 0 0 (by decide) rfl) rfl (by decide) rfl rfl (Nat.le_of_ble_eq_true rfl) dX10_street_61 ?_
    obtain ⟨m8, hm8, h⟩ := d_lt_some h
    refine u_mem hm8 ?_
    refine u_aload_n (pc := 64) F dX10_street_64 0 rfl rfl ?_
    refine u_getO (pc := 65) F dX10_street_65 (hL 10 0 0 (by decide) rfl) ck_10 fl_10_35 rfl (by decide) rfl ?_
    obtain ⟨q9, hq9, h⟩ := d_bd_some h
    refine u_callv (pc := 68) F (As := []) (c_X7_begin G hL 0 (by decide) m8 (m8 7 0) (m8 4 0) (rfl) (rfl) q9 hq9) yv_X7_begin ml_10_88 (hL 7 0 0 (by decide) rfl) rfl (by decide) rfl rfl (Nat.le_of_ble_eq_true rfl) dX10_street_68 ?_
    obtain ⟨m10, hm10, h⟩ := d_lt_some h
    refine u_mem hm10 ?_
    refine u_aload_n (pc := 71) F dX10_street_71 0 rfl rfl ?_
    refine u_getO (pc := 72) F dX10_street_72 (hL 10 0 0 (by decide) rfl) ck_10 fl_10_45 rfl (by decide) rfl ?_
    obtain ⟨q11, hq11, h⟩ := d_bd_some h
    refine u_callv (pc := 75) F (As := []) (c_X3_forget G hL m10 q11 hq11) yv_X3_forget ml_10_118 (hL 3 0 0 (by decide) rfl) rfl (by decide) rfl rfl (Nat.le_of_ble_eq_true rfl) dX10_street_75 ?_
    refine u_aload_n (pc := 78) F dX10_street_78 0 rfl rfl ?_
    refine u_getO (pc := 79) F dX10_street_79 (hL 10 0 0 (by decide) rfl) ck_10 fl_10_52 rfl (by decide) rfl ?_
    obtain ⟨q12, hq12, h⟩ := d_bd_some h
    refine u_callv (pc := 82) F (As := []) (c_X2_forget G hL q11 q12 hq12) yv_X2_forget ml_10_121 (hL 2 0 0 (by decide) rfl) rfl (by decide) rfl rfl (Nat.le_of_ble_eq_true rfl) dX10_street_82 ?_
    refine u_aload_n (pc := 85) F dX10_street_85 0 rfl rfl ?_
    refine u_getO (pc := 86) F dX10_street_86 (hL 10 0 0 (by decide) rfl) ck_10 fl_10_66 rfl (by decide) rfl ?_
    obtain ⟨q13, hq13, h⟩ := d_bd_some h
    refine u_callv (pc := 89) F (As := []) (c_X8_clear G hL q12 (q12 8 0) (rfl) q13 hq13) yv_X8_clear ml_10_91 (hL 8 0 0 (by decide) rfl) rfl (by decide) rfl rfl (Nat.le_of_ble_eq_true rfl) dX10_street_89 ?_
    obtain ⟨m14, hm14, h⟩ := d_lt_some h
    refine u_mem hm14 ?_
    refine u_aload_n (pc := 92) F dX10_street_92 0 rfl rfl ?_
    refine u_getO (pc := 93) F dX10_street_93 (hL 10 0 0 (by decide) rfl) ck_10 fl_10_73 rfl (by decide) rfl ?_
    obtain ⟨q15, hq15, h⟩ := d_bd_some h
    refine u_callv (pc := 96) F (As := []) (c_X0_clear G hL m14 (m14 0 0) (rfl) q15 hq15) yv_X0_clear ml_10_122 (hL 0 0 0 (by decide) rfl) rfl (by decide) rfl rfl (Nat.le_of_ble_eq_true rfl) dX10_street_96 ?_
    obtain ⟨m16, hm16, h⟩ := d_lt_some h
    refine u_mem hm16 ?_
    refine u_aload_n (pc := 99) F dX10_street_99 0 rfl rfl ?_
    refine u_getO (pc := 100) F dX10_street_100 (hL 10 0 0 (by decide) rfl) ck_10 fl_10_26 rfl (by decide) rfl ?_
    refine u_get (pc := 103) F dX10_street_103 (hL 4 0 0 (by decide) rfl) ck_4 fl_10_123 rfl (by decide) rfl ?_
    have h1 := Option.some.inj h
    obtain ⟨hj0, hr0⟩ := Prod.mk.inj h1
    subst hj0
    subst hr0
    exact hR _ _ rfl dX10_street_106
  · rw [if_neg c6] at h
    refine u_bipush (v := -10) (pc := 39) F dX10_street_39 (by decide) ?_
    refine u_aload_n (pc := 41) F dX10_street_41 0 rfl rfl ?_
    refine u_getO (pc := 42) F dX10_street_42 (hL 10 0 0 (by decide) rfl) ck_10 fl_10_19 rfl (by decide) rfl ?_
    refine u_get (pc := 45) F dX10_street_45 (hL 5 0 0 (by decide) rfl) ck_5 fl_10_109 rfl (by decide) rfl ?_
    refine u_isub (pc := 48) F dX10_street_48 ?_
    have h1 := Option.some.inj h
    obtain ⟨hj0, hr0⟩ := Prod.mk.inj h1
    subst hj0
    subst hr0
    exact hR _ _ rfl dX10_street_49
/- RollingCodes.fault -/
def fX10_fault (σ : Mem) : Option (Int32) :=
    some (σ 10 0 0 11)
set_option maxHeartbeats 4000000 in
set_option maxRecDepth 100000 in
theorem c_X10_fault (G : G0) (hL : In G) (σ : Mem) (r : Int32) (h : fX10_fault σ = some r) :
    CI G yX10_fault cX10_fault 1 .int 1 [.ref (adr G (10, 0, 0))] σ r σ := by
  refine CI.of (by decide +kernel) (Nat.le_of_ble_eq_true rfl) (fun Y hY F hR => ?_)
  unfold fX10_fault at h
  have F : Fx Y G cX10_fault RX10 1 := F
  refine u_lv (lv' := [(0, .ref (adr G (10, 0, 0)))]) [0] rfl ?_
  refine u_aload_n (pc := 0) F dX10_fault_0 0 rfl rfl ?_
  refine u_get (pc := 1) F dX10_fault_1 (hL 10 0 0 (by decide) rfl) ck_10 fl_10_84 rfl (by decide) rfl ?_
  have h1 := Option.some.inj h
  subst h1
  exact hR _ _ rfl dX10_fault_4
/- RollingCodes.told -/
def fX10_told (σ : Mem) (x1 : Int32) : Option (Int32) :=
    if x1 = (0 : Int32) then (if (σ 4 0 0 0) = 0 then (some (0 : Int32)) else (some (1 : Int32))) else (if x1 = (1 : Int32) then (some (σ 4 0 0 3)) else (if x1 = (2 : Int32) then (some (σ 4 0 0 4)) else (if x1 = (3 : Int32) then (some (σ 9 0 0 1)) else (if x1 = (4 : Int32) then (some (σ 7 0 0 1)) else (if x1 = (5 : Int32) then (some (σ 7 0 0 2)) else (if x1 = (6 : Int32) then (some (σ 4 0 0 2)) else (if x1 = (7 : Int32) then (some (σ 7 0 0 4)) else (if x1 = (8 : Int32) then (some (σ 7 0 0 3)) else (if x1 = (9 : Int32) then (d_bd (fX7_allOpenings (σ 7 0) (σ 4 0)) fun q12 => some q12) else (if x1 = (10 : Int32) then (some (σ 8 0 0 2)) else (if x1 = (11 : Int32) then (some (σ 0 0 0 2)) else (if x1 = (12 : Int32) then (some (σ 3 0 0 2)) else (some (-1000000002 : Int32))))))))))))))
set_option maxHeartbeats 4000000 in
set_option maxRecDepth 100000 in
theorem c_X10_told (G : G0) (hL : In G) (x1 : Int32) (σ : Mem) (r : Int32) (h : fX10_told σ x1 = some r) :
    CI G yX10_told cX10_told 2 .int 2 [.ref (adr G (10, 0, 0)), .int x1] σ r σ := by
  refine CI.of (by decide +kernel) (Nat.le_of_ble_eq_true rfl) (fun Y hY F hR => ?_)
  unfold fX10_told at h
  have F : Fx Y G cX10_told RX10 2 := F
  refine u_lv (lv' := [(0, .ref (adr G (10, 0, 0))), (1, .int x1)]) [0, 1] rfl ?_
  refine u_iload_n (pc := 0) F dX10_told_0 1 rfl rfl ?_
  by_cases e1 : x1 = (0 : Int32)
  · rw [if_pos e1] at h
    refine u_table (pc := 1) F dX10_told_1 (off := 67) 68 (by rw [e1]; decide) (by rw [e1]; decide) (by rw [e1]; rfl) (by decide) ?_
    refine u_aload_n (pc := 68) F dX10_told_68 0 rfl rfl ?_
    refine u_getO (pc := 69) F dX10_told_69 (hL 10 0 0 (by decide) rfl) ck_10 fl_10_26 rfl (by decide) rfl ?_
    refine u_get (pc := 72) F dX10_told_72 (hL 4 0 0 (by decide) rfl) ck_4 fl_10_126 rfl (by decide) rfl ?_
    refine u_if_eq (pc := 75) F 82 dX10_told_75 (by decide) (fun c2 => ?_) (fun c2 => ?_)
    · rw [if_pos c2] at h
      refine u_iconst (v := 0) (pc := 82) F dX10_told_82 (by decide) ?_
      have h1 := Option.some.inj h
      subst h1
      exact hR _ _ rfl dX10_told_83
    · rw [if_neg c2] at h
      refine u_iconst (v := 1) (pc := 78) F dX10_told_78 (by decide) ?_
      refine u_goto (pc := 79) F 83 dX10_told_79 (by decide) ?_
      have h1 := Option.some.inj h
      subst h1
      exact hR _ _ rfl dX10_told_83
  rw [if_neg e1] at h
  by_cases e3 : x1 = (1 : Int32)
  · rw [if_pos e3] at h
    refine u_table (pc := 1) F dX10_told_1 (off := 83) 84 (by rw [e3]; decide) (by rw [e3]; decide) (by rw [e3]; rfl) (by decide) ?_
    refine u_aload_n (pc := 84) F dX10_told_84 0 rfl rfl ?_
    refine u_getO (pc := 85) F dX10_told_85 (hL 10 0 0 (by decide) rfl) ck_10 fl_10_26 rfl (by decide) rfl ?_
    refine u_get (pc := 88) F dX10_told_88 (hL 4 0 0 (by decide) rfl) ck_4 fl_10_130 rfl (by decide) rfl ?_
    have h1 := Option.some.inj h
    subst h1
    exact hR _ _ rfl dX10_told_91
  rw [if_neg e3] at h
  by_cases e4 : x1 = (2 : Int32)
  · rw [if_pos e4] at h
    refine u_table (pc := 1) F dX10_told_1 (off := 91) 92 (by rw [e4]; decide) (by rw [e4]; decide) (by rw [e4]; rfl) (by decide) ?_
    refine u_aload_n (pc := 92) F dX10_told_92 0 rfl rfl ?_
    refine u_getO (pc := 93) F dX10_told_93 (hL 10 0 0 (by decide) rfl) ck_10 fl_10_26 rfl (by decide) rfl ?_
    refine u_get (pc := 96) F dX10_told_96 (hL 4 0 0 (by decide) rfl) ck_4 fl_10_123 rfl (by decide) rfl ?_
    have h1 := Option.some.inj h
    subst h1
    exact hR _ _ rfl dX10_told_99
  rw [if_neg e4] at h
  by_cases e5 : x1 = (3 : Int32)
  · rw [if_pos e5] at h
    refine u_table (pc := 1) F dX10_told_1 (off := 99) 100 (by rw [e5]; decide) (by rw [e5]; decide) (by rw [e5]; rfl) (by decide) ?_
    refine u_aload_n (pc := 100) F dX10_told_100 0 rfl rfl ?_
    refine u_getO (pc := 101) F dX10_told_101 (hL 10 0 0 (by decide) rfl) ck_10 fl_10_10 rfl (by decide) rfl ?_
    refine u_get (pc := 104) F dX10_told_104 (hL 9 0 0 (by decide) rfl) ck_9 fl_10_99 rfl (by decide) rfl ?_
    have h1 := Option.some.inj h
    subst h1
    exact hR _ _ rfl dX10_told_107
  rw [if_neg e5] at h
  by_cases e6 : x1 = (4 : Int32)
  · rw [if_pos e6] at h
    refine u_table (pc := 1) F dX10_told_1 (off := 107) 108 (by rw [e6]; decide) (by rw [e6]; decide) (by rw [e6]; rfl) (by decide) ?_
    refine u_aload_n (pc := 108) F dX10_told_108 0 rfl rfl ?_
    refine u_getO (pc := 109) F dX10_told_109 (hL 10 0 0 (by decide) rfl) ck_10 fl_10_35 rfl (by decide) rfl ?_
    refine u_get (pc := 112) F dX10_told_112 (hL 7 0 0 (by decide) rfl) ck_7 fl_10_133 rfl (by decide) rfl ?_
    have h1 := Option.some.inj h
    subst h1
    exact hR _ _ rfl dX10_told_115
  rw [if_neg e6] at h
  by_cases e7 : x1 = (5 : Int32)
  · rw [if_pos e7] at h
    refine u_table (pc := 1) F dX10_told_1 (off := 115) 116 (by rw [e7]; decide) (by rw [e7]; decide) (by rw [e7]; rfl) (by decide) ?_
    refine u_aload_n (pc := 116) F dX10_told_116 0 rfl rfl ?_
    refine u_getO (pc := 117) F dX10_told_117 (hL 10 0 0 (by decide) rfl) ck_10 fl_10_35 rfl (by decide) rfl ?_
    refine u_get (pc := 120) F dX10_told_120 (hL 7 0 0 (by decide) rfl) ck_7 fl_10_136 rfl (by decide) rfl ?_
    have h1 := Option.some.inj h
    subst h1
    exact hR _ _ rfl dX10_told_123
  rw [if_neg e7] at h
  by_cases e8 : x1 = (6 : Int32)
  · rw [if_pos e8] at h
    refine u_table (pc := 1) F dX10_told_1 (off := 123) 124 (by rw [e8]; decide) (by rw [e8]; decide) (by rw [e8]; rfl) (by decide) ?_
    refine u_aload_n (pc := 124) F dX10_told_124 0 rfl rfl ?_
    refine u_getO (pc := 125) F dX10_told_125 (hL 10 0 0 (by decide) rfl) ck_10 fl_10_26 rfl (by decide) rfl ?_
    refine u_get (pc := 128) F dX10_told_128 (hL 4 0 0 (by decide) rfl) ck_4 fl_10_139 rfl (by decide) rfl ?_
    have h1 := Option.some.inj h
    subst h1
    exact hR _ _ rfl dX10_told_131
  rw [if_neg e8] at h
  by_cases e9 : x1 = (7 : Int32)
  · rw [if_pos e9] at h
    refine u_table (pc := 1) F dX10_told_1 (off := 131) 132 (by rw [e9]; decide) (by rw [e9]; decide) (by rw [e9]; rfl) (by decide) ?_
    refine u_aload_n (pc := 132) F dX10_told_132 0 rfl rfl ?_
    refine u_getO (pc := 133) F dX10_told_133 (hL 10 0 0 (by decide) rfl) ck_10 fl_10_35 rfl (by decide) rfl ?_
    refine u_get (pc := 136) F dX10_told_136 (hL 7 0 0 (by decide) rfl) ck_7 fl_10_142 rfl (by decide) rfl ?_
    have h1 := Option.some.inj h
    subst h1
    exact hR _ _ rfl dX10_told_139
  rw [if_neg e9] at h
  by_cases e10 : x1 = (8 : Int32)
  · rw [if_pos e10] at h
    refine u_table (pc := 1) F dX10_told_1 (off := 139) 140 (by rw [e10]; decide) (by rw [e10]; decide) (by rw [e10]; rfl) (by decide) ?_
    refine u_aload_n (pc := 140) F dX10_told_140 0 rfl rfl ?_
    refine u_getO (pc := 141) F dX10_told_141 (hL 10 0 0 (by decide) rfl) ck_10 fl_10_35 rfl (by decide) rfl ?_
    refine u_get (pc := 144) F dX10_told_144 (hL 7 0 0 (by decide) rfl) ck_7 fl_10_145 rfl (by decide) rfl ?_
    have h1 := Option.some.inj h
    subst h1
    exact hR _ _ rfl dX10_told_147
  rw [if_neg e10] at h
  by_cases e11 : x1 = (9 : Int32)
  · rw [if_pos e11] at h
    refine u_table (pc := 1) F dX10_told_1 (off := 147) 148 (by rw [e11]; decide) (by rw [e11]; decide) (by rw [e11]; rfl) (by decide) ?_
    refine u_aload_n (pc := 148) F dX10_told_148 0 rfl rfl ?_
    refine u_getO (pc := 149) F dX10_told_149 (hL 10 0 0 (by decide) rfl) ck_10 fl_10_35 rfl (by decide) rfl ?_
    obtain ⟨q12, hq12, h⟩ := d_bd_some h
    refine u_calli (pc := 152) F (As := []) (c_X7_allOpenings G hL 0 (by decide) σ (σ 7 0) (σ 4 0) (rfl) (rfl) q12 hq12) yv_X7_allOpenings ml_10_148 (hL 7 0 0 (by decide) rfl) rfl (by decide) rfl rfl (Nat.le_of_ble_eq_true rfl) dX10_told_152 ?_
    have h1 := Option.some.inj h
    subst h1
    exact hR _ _ rfl dX10_told_155
  rw [if_neg e11] at h
  by_cases e13 : x1 = (10 : Int32)
  · rw [if_pos e13] at h
    refine u_table (pc := 1) F dX10_told_1 (off := 155) 156 (by rw [e13]; decide) (by rw [e13]; decide) (by rw [e13]; rfl) (by decide) ?_
    refine u_aload_n (pc := 156) F dX10_told_156 0 rfl rfl ?_
    refine u_getO (pc := 157) F dX10_told_157 (hL 10 0 0 (by decide) rfl) ck_10 fl_10_66 rfl (by decide) rfl ?_
    refine u_get (pc := 160) F dX10_told_160 (hL 8 0 0 (by decide) rfl) ck_8 fl_10_152 rfl (by decide) rfl ?_
    have h1 := Option.some.inj h
    subst h1
    exact hR _ _ rfl dX10_told_163
  rw [if_neg e13] at h
  by_cases e14 : x1 = (11 : Int32)
  · rw [if_pos e14] at h
    refine u_table (pc := 1) F dX10_told_1 (off := 163) 164 (by rw [e14]; decide) (by rw [e14]; decide) (by rw [e14]; rfl) (by decide) ?_
    refine u_aload_n (pc := 164) F dX10_told_164 0 rfl rfl ?_
    refine u_getO (pc := 165) F dX10_told_165 (hL 10 0 0 (by decide) rfl) ck_10 fl_10_73 rfl (by decide) rfl ?_
    refine u_get (pc := 168) F dX10_told_168 (hL 0 0 0 (by decide) rfl) ck_0 fl_10_155 rfl (by decide) rfl ?_
    have h1 := Option.some.inj h
    subst h1
    exact hR _ _ rfl dX10_told_171
  rw [if_neg e14] at h
  by_cases e15 : x1 = (12 : Int32)
  · rw [if_pos e15] at h
    refine u_table (pc := 1) F dX10_told_1 (off := 171) 172 (by rw [e15]; decide) (by rw [e15]; decide) (by rw [e15]; rfl) (by decide) ?_
    refine u_aload_n (pc := 172) F dX10_told_172 0 rfl rfl ?_
    refine u_getO (pc := 173) F dX10_told_173 (hL 10 0 0 (by decide) rfl) ck_10 fl_10_45 rfl (by decide) rfl ?_
    refine u_get (pc := 176) F dX10_told_176 (hL 3 0 0 (by decide) rfl) ck_3 fl_10_156 rfl (by decide) rfl ?_
    have h1 := Option.some.inj h
    subst h1
    exact hR _ _ rfl dX10_told_179
  rw [if_neg e15] at h
  refine u_tableOut (pc := 1) F dX10_told_1 180 (by
    have j0 : ¬ x1.toInt = 0 := i32_ne e1
    have j1 : ¬ x1.toInt = 1 := i32_ne e3
    have j2 : ¬ x1.toInt = 2 := i32_ne e4
    have j3 : ¬ x1.toInt = 3 := i32_ne e5
    have j4 : ¬ x1.toInt = 4 := i32_ne e6
    have j5 : ¬ x1.toInt = 5 := i32_ne e7
    have j6 : ¬ x1.toInt = 6 := i32_ne e8
    have j7 : ¬ x1.toInt = 7 := i32_ne e9
    have j8 : ¬ x1.toInt = 8 := i32_ne e10
    have j9 : ¬ x1.toInt = 9 := i32_ne e11
    have j10 : ¬ x1.toInt = 10 := i32_ne e13
    have j11 : ¬ x1.toInt = 11 := i32_ne e14
    have j12 : ¬ x1.toInt = 12 := i32_ne e15
    omega) (by decide) ?_
  refine u_ldc (v := -1000000002) (pc := 180) F dX10_told_180 kc_10_94 ?_
  have h1 := Option.some.inj h
  subst h1
  exact hR _ _ rfl dX10_told_182
/- RollingCodes.opensFrom -/
def fX10_opensFrom (σ : Mem) (x1 : Int32) (x2 : Int32) : Option (Int32 × Mem) :=
    d_bd (fX7_copyFrom (σ 7 1) (σ 7 0)) fun q1 => d_lt (upM σ 7 1 q1) fun m2 => d_bd (fX7_pressedFrom (m2 7 1) (m2 4 0) x1 x2) fun q3 => d_lt (upM m2 7 1 q3.2) fun m4 => some (q3.1, m4)
set_option maxHeartbeats 4000000 in
set_option maxRecDepth 100000 in
theorem c_X10_opensFrom (G : G0) (hL : In G) (x1 : Int32) (x2 : Int32) (σ : Mem) (r : Int32) (σ' : Mem) (h : fX10_opensFrom σ x1 x2 = some (r, σ')) :
    CI G yX10_opensFrom cX10_opensFrom 3 .int 6 [.ref (adr G (10, 0, 0)), .int x1, .int x2] σ r (σ') := by
  refine CI.of (by decide +kernel) (Nat.le_of_ble_eq_true rfl) (fun Y hY F hR => ?_)
  unfold fX10_opensFrom at h
  have F : Fx Y G cX10_opensFrom RX10 6 := F
  refine u_lv (lv' := [(0, .ref (adr G (10, 0, 0))), (1, .int x1), (2, .int x2)]) [0, 1, 2] rfl ?_
  refine u_aload_n (pc := 0) F dX10_opensFrom_0 0 rfl rfl ?_
  refine u_getO (pc := 1) F dX10_opensFrom_1 (hL 10 0 0 (by decide) rfl) ck_10 fl_10_39 rfl (by decide) rfl ?_
  refine u_aload_n (pc := 4) F dX10_opensFrom_4 0 rfl rfl ?_
  refine u_getO (pc := 5) F dX10_opensFrom_5 (hL 10 0 0 (by decide) rfl) ck_10 fl_10_35 rfl (by decide) rfl ?_
  obtain ⟨q1, hq1, h⟩ := d_bd_some h
  refine u_callv (pc := 8) F (As := [.ref (adr G (7, 0, 0))]) (c_X7_copyFrom G hL 1 (by decide) 0 (by decide) (by decide) σ (σ 7 1) (σ 7 0) (rfl) (rfl) q1 hq1) yv_X7_copyFrom ml_10_264 (hL 7 1 0 (by decide) rfl) rfl (by decide) rfl rfl (Nat.le_of_ble_eq_true rfl) dX10_opensFrom_8 ?_
  obtain ⟨m2, hm2, h⟩ := d_lt_some h
  refine u_mem hm2 ?_
  refine u_aload_n (pc := 11) F dX10_opensFrom_11 0 rfl rfl ?_
  refine u_getO (pc := 12) F dX10_opensFrom_12 (hL 10 0 0 (by decide) rfl) ck_10 fl_10_39 rfl (by decide) rfl ?_
  refine u_iload_n (pc := 15) F dX10_opensFrom_15 1 rfl rfl ?_
  refine u_iload_n (pc := 16) F dX10_opensFrom_16 2 rfl rfl ?_
  obtain ⟨q3, hq3, h⟩ := d_bd_some h
  refine u_calli (pc := 17) F (As := [.int x1, .int x2]) (c_X7_pressedFrom G hL 1 (by decide) x1 x2 m2 (m2 7 1) (m2 4 0) (rfl) (rfl) q3.1 q3.2 hq3) yv_X7_pressedFrom ml_10_230 (hL 7 1 0 (by decide) rfl) rfl (by decide) rfl rfl (Nat.le_of_ble_eq_true rfl) dX10_opensFrom_17 ?_
  obtain ⟨m4, hm4, h⟩ := d_lt_some h
  refine u_mem hm4 ?_
  have h1 := Option.some.inj h
  obtain ⟨hj0, hr0⟩ := Prod.mk.inj h1
  subst hj0
  subst hr0
  exact hR _ _ rfl dX10_opensFrom_20
/- RollingCodes.bestPlace -/
def fX10_bestPlace_7  : Nat → Mem → Int32 → Int32 → Int32 → Int32 → Option (Int32 × Mem)
  | 0, _, _, _, _, _ => none
  | fu + 1, σ, x1, x2, x3, x4 =>
    if x4 < (10 : Int32) then (d_bd (fX10_opensFrom σ x1 x4) fun q2 => d_bd (fJ6_bitCount_0f7a4 q2.1) fun q3 => if q3 ≤ x3 then (d_lt (x4 + (1 : Int32)) fun v5 => fX10_bestPlace_7 fu q2.2 x1 x2 x3 v5) else (d_lt (x4 + (1 : Int32)) fun v6 => fX10_bestPlace_7 fu q2.2 x1 x4 q3 v6)) else (some (x2, σ))
def fX10_bestPlace (σ : Mem) (x1 : Int32) : Option (Int32 × Mem) :=
    fX10_bestPlace_7 1000 σ x1 (0 : Int32) (0 : Int32) (0 : Int32)
set_option maxHeartbeats 4000000 in
set_option maxRecDepth 100000 in
theorem wX10_bestPlace_7 (Y : Dy) (G : G0) (hL : In G) (F : Fx Y G cX10_bestPlace RX10 7) (hY : Y.2.2.2.2.2.2.2.2.2.2.2.1 = 6) (r : Int32) (σ' : Mem) (hR : ∀ (pc : Nat) (lv : List (Nat × Value)), narrow .int (.int r) = .int r → decode cX10_bestPlace pc = .ok (.ireturn, 1) → U Y G σ' pc lv [.int r]) :
    ∀ (fu : Nat) (σ : Mem) (x1 : Int32) (x2 : Int32) (x3 : Int32) (x4 : Int32), fX10_bestPlace_7 fu σ x1 x2 x3 x4 = some (r, σ') → U Y G σ 7 [(0, .ref (adr G (10, 0, 0))), (1, .int x1), (2, .int x2), (3, .int x3), (4, .int x4)] [] := by
  intro fu
  induction fu with
  | zero =>
    intro σ x1 x2 x3 x4 h
    rw [fX10_bestPlace_7] at h
    cases h
  | succ fu ih =>
    intro σ x1 x2 x3 x4 h
    rw [fX10_bestPlace_7] at h
    refine u_iload (pc := 7) F dX10_bestPlace_7 4 rfl ?_
    refine u_bipush (v := 10) (pc := 9) F dX10_bestPlace_9 (by decide) ?_
    refine u_icmp_ge (pc := 11) F 44 dX10_bestPlace_11 (by decide) (fun c1 => ?_) (fun c1 => ?_)
    · rw [if_neg c1] at h
      refine u_iload_n (pc := 44) F dX10_bestPlace_44 2 rfl rfl ?_
      have h1 := Option.some.inj h
      obtain ⟨hj0, hr0⟩ := Prod.mk.inj h1
      subst hj0
      subst hr0
      exact hR _ _ rfl dX10_bestPlace_45
    · rw [if_pos c1] at h
      refine u_aload_n (pc := 14) F dX10_bestPlace_14 0 rfl rfl ?_
      refine u_iload_n (pc := 15) F dX10_bestPlace_15 1 rfl rfl ?_
      refine u_iload (pc := 16) F dX10_bestPlace_16 4 rfl ?_
      obtain ⟨q2, hq2, h⟩ := d_bd_some h
      refine u_calli (pc := 18) F (As := [.int x1, .int x4]) (c_X10_opensFrom G hL x1 x4 σ q2.1 q2.2 hq2) yv_X10_opensFrom ml_10_256 (hL 10 0 0 (by decide) rfl) rfl (by decide) rfl rfl (Nat.le_of_ble_eq_true rfl) dX10_bestPlace_18 ?_
      obtain ⟨q3, hq3, h⟩ := d_bd_some h
      refine u_callSi (pc := 21) F (As := [.int q2.1]) (c_J6_bitCount_0f7a4 G hL q2.1 q2.2 q3 hq3) ys_J6_bitCount_0f7a4 ml_10_326 (by decide) rfl rfl (Nat.le_of_ble_eq_true rfl) dX10_bestPlace_21 ?_
      refine u_istore (lv' := [(5, .int q3), (0, .ref (adr G (10, 0, 0))), (1, .int x1), (2, .int x2), (3, .int x3), (4, .int x4)]) (pc := 24) F dX10_bestPlace_24 hY (by decide) rfl ?_
      refine u_iload (pc := 26) F dX10_bestPlace_26 0 rfl ?_
      refine u_iload_n (pc := 28) F dX10_bestPlace_28 4 rfl rfl ?_
      refine u_icmp_le (pc := 29) F 38 dX10_bestPlace_29 (by decide) (fun c4 => ?_) (fun c4 => ?_)
      · rw [if_pos c4] at h
        obtain ⟨v5, hv5, h⟩ := d_lt_some h
        refine u_iinc (lv' := [(4, .int v5), (5, .int q3), (0, .ref (adr G (10, 0, 0))), (1, .int x1), (2, .int x2), (3, .int x3)]) (pc := 38) F dX10_bestPlace_38 5 rfl hv5.symm hY (by decide) rfl ?_
        refine u_goto (pc := 41) F 7 dX10_bestPlace_41 (by decide) ?_
        refine u_lv (lv' := [(0, .ref (adr G (10, 0, 0))), (1, .int x1), (2, .int x2), (3, .int x3), (4, .int v5)]) [2, 3, 4, 5, 0] rfl ?_
        exact ih q2.2 x1 x2 x3 v5 h
      · rw [if_neg c4] at h
        refine u_iload (pc := 32) F dX10_bestPlace_32 0 rfl ?_
        refine u_istore_n (lv' := [(3, .int q3), (5, .int q3), (0, .ref (adr G (10, 0, 0))), (1, .int x1), (2, .int x2), (4, .int x4)]) (pc := 34) F dX10_bestPlace_34 rfl hY (by decide) rfl ?_
        refine u_iload (pc := 35) F dX10_bestPlace_35 5 rfl ?_
        refine u_istore_n (lv' := [(2, .int x4), (3, .int q3), (5, .int q3), (0, .ref (adr G (10, 0, 0))), (1, .int x1), (4, .int x4)]) (pc := 37) F dX10_bestPlace_37 rfl hY (by decide) rfl ?_
        obtain ⟨v6, hv6, h⟩ := d_lt_some h
        refine u_iinc (lv' := [(4, .int v6), (2, .int x4), (3, .int q3), (5, .int q3), (0, .ref (adr G (10, 0, 0))), (1, .int x1)]) (pc := 38) F dX10_bestPlace_38 5 rfl hv6.symm hY (by decide) rfl ?_
        refine u_goto (pc := 41) F 7 dX10_bestPlace_41 (by decide) ?_
        refine u_lv (lv' := [(0, .ref (adr G (10, 0, 0))), (1, .int x1), (2, .int x4), (3, .int q3), (4, .int v6)]) [4, 5, 1, 2, 0] rfl ?_
        exact ih q2.2 x1 x4 q3 v6 h
set_option maxHeartbeats 4000000 in
set_option maxRecDepth 100000 in
theorem c_X10_bestPlace (G : G0) (hL : In G) (x1 : Int32) (σ : Mem) (r : Int32) (σ' : Mem) (h : fX10_bestPlace σ x1 = some (r, σ')) :
    CI G yX10_bestPlace cX10_bestPlace 6 .int 7 [.ref (adr G (10, 0, 0)), .int x1] σ r (σ') := by
  refine CI.of (by decide +kernel) (Nat.le_of_ble_eq_true rfl) (fun Y hY F hR => ?_)
  unfold fX10_bestPlace at h
  have F : Fx Y G cX10_bestPlace RX10 7 := F
  refine u_lv (lv' := [(0, .ref (adr G (10, 0, 0))), (1, .int x1)]) [0, 1] rfl ?_
  refine u_iconst (v := 0) (pc := 0) F dX10_bestPlace_0 (by decide) ?_
  refine u_istore_n (lv' := [(2, .int (0 : Int32)), (0, .ref (adr G (10, 0, 0))), (1, .int x1)]) (pc := 1) F dX10_bestPlace_1 rfl hY (by decide) rfl ?_
  refine u_iconst (v := 0) (pc := 2) F dX10_bestPlace_2 (by decide) ?_
  refine u_istore_n (lv' := [(3, .int (0 : Int32)), (2, .int (0 : Int32)), (0, .ref (adr G (10, 0, 0))), (1, .int x1)]) (pc := 3) F dX10_bestPlace_3 rfl hY (by decide) rfl ?_
  refine u_iconst (v := 0) (pc := 4) F dX10_bestPlace_4 (by decide) ?_
  refine u_istore (lv' := [(4, .int (0 : Int32)), (3, .int (0 : Int32)), (2, .int (0 : Int32)), (0, .ref (adr G (10, 0, 0))), (1, .int x1)]) (pc := 5) F dX10_bestPlace_5 hY (by decide) rfl ?_
  refine u_lv (lv' := [(0, .ref (adr G (10, 0, 0))), (1, .int x1), (2, .int (0 : Int32)), (3, .int (0 : Int32)), (4, .int (0 : Int32))]) [3, 4, 2, 1, 0] rfl ?_
  exact wX10_bestPlace_7 Y G hL F hY r σ' hR 1000 σ x1 (0 : Int32) (0 : Int32) (0 : Int32) h
/- RollingCodes.fob -/
def fX10_fob (σ : Mem) (x1 : Int32) (x2 : Int32) : Option (Int32 × Mem) :=
    d_bd (fX4_isFob (σ 4 0) x1) fun q1 => if q1 = 0 then (some ((-1000000001 : Int32), σ)) else (if x2 = (0 : Int32) then (d_ab x1 5 <| some (σ 4 0 9 x1.toNatClampNeg, σ)) else (if x2 = (1 : Int32) then (d_ab x1 5 <| some (σ 7 0 7 x1.toNatClampNeg, σ)) else (if x2 = (2 : Int32) then (d_ab x1 5 <| some (σ 4 0 11 x1.toNatClampNeg, σ)) else (if x2 = (3 : Int32) then (d_ab x1 5 <| some (σ 4 0 12 x1.toNatClampNeg, σ)) else (if x2 = (4 : Int32) then (d_ab x1 5 <| some (σ 7 0 8 x1.toNatClampNeg, σ)) else (if x2 = (5 : Int32) then (d_ab x1 5 <| some (σ 7 0 9 x1.toNatClampNeg, σ)) else (if x2 = (6 : Int32) then (d_bd (fX10_bestPlace σ x1) fun q16 => some (q16.1, q16.2)) else (some ((-1000000002 : Int32), σ)))))))))
set_option maxHeartbeats 4000000 in
set_option maxRecDepth 100000 in
theorem c_X10_fob (G : G0) (hL : In G) (x1 : Int32) (x2 : Int32) (σ : Mem) (r : Int32) (σ' : Mem) (h : fX10_fob σ x1 x2 = some (r, σ')) :
    CI G yX10_fob cX10_fob 3 .int 8 [.ref (adr G (10, 0, 0)), .int x1, .int x2] σ r (σ') := by
  refine CI.of (by decide +kernel) (Nat.le_of_ble_eq_true rfl) (fun Y hY F hR => ?_)
  unfold fX10_fob at h
  have F : Fx Y G cX10_fob RX10 8 := F
  refine u_lv (lv' := [(0, .ref (adr G (10, 0, 0))), (1, .int x1), (2, .int x2)]) [0, 1, 2] rfl ?_
  refine u_aload_n (pc := 0) F dX10_fob_0 0 rfl rfl ?_
  refine u_getO (pc := 1) F dX10_fob_1 (hL 10 0 0 (by decide) rfl) ck_10 fl_10_26 rfl (by decide) rfl ?_
  refine u_iload_n (pc := 4) F dX10_fob_4 1 rfl rfl ?_
  obtain ⟨q1, hq1, h⟩ := d_bd_some h
  refine u_calli (pc := 5) F (As := [.int x1]) (c_X4_isFob G hL 0 (by decide) x1 σ (σ 4 0) (rfl) q1 hq1) yv_X4_isFob ml_10_157 (hL 4 0 0 (by decide) rfl) rfl (by decide) rfl rfl (Nat.le_of_ble_eq_true rfl) dX10_fob_5 ?_
  refine u_if_ne (pc := 8) F 14 dX10_fob_8 (by decide) (fun c2 => ?_) (fun c2 => ?_)
  · rw [if_neg c2] at h
    refine u_iload_n (pc := 14) F dX10_fob_14 2 rfl rfl ?_
    by_cases e3 : x2 = (0 : Int32)
    · rw [if_pos e3] at h
      refine u_table (pc := 15) F dX10_fob_15 (off := 41) 56 (by rw [e3]; decide) (by rw [e3]; decide) (by rw [e3]; rfl) (by decide) ?_
      refine u_aload_n (pc := 56) F dX10_fob_56 0 rfl rfl ?_
      refine u_getO (pc := 57) F dX10_fob_57 (hL 10 0 0 (by decide) rfl) ck_10 fl_10_26 rfl (by decide) rfl ?_
      refine u_getA (pc := 60) F dX10_fob_60 (hL 4 0 0 (by decide) rfl) ck_4 fl_10_161 rfl (by decide) (by decide) ?_
      refine u_iload_n (pc := 63) F dX10_fob_63 1 rfl rfl ?_
      obtain ⟨b4, h⟩ := d_ab_some h
      refine u_aldI (pc := 64) F dX10_fob_64 (hL 4 0 9 (by decide) rfl) rfl b4 rfl ?_
      have h1 := Option.some.inj h
      obtain ⟨hj0, hr0⟩ := Prod.mk.inj h1
      subst hj0
      subst hr0
      exact hR _ _ rfl dX10_fob_65
    rw [if_neg e3] at h
    by_cases e5 : x2 = (1 : Int32)
    · rw [if_pos e5] at h
      refine u_table (pc := 15) F dX10_fob_15 (off := 51) 66 (by rw [e5]; decide) (by rw [e5]; decide) (by rw [e5]; rfl) (by decide) ?_
      refine u_aload_n (pc := 66) F dX10_fob_66 0 rfl rfl ?_
      refine u_getO (pc := 67) F dX10_fob_67 (hL 10 0 0 (by decide) rfl) ck_10 fl_10_35 rfl (by decide) rfl ?_
      refine u_getA (pc := 70) F dX10_fob_70 (hL 7 0 0 (by decide) rfl) ck_7 fl_10_165 rfl (by decide) (by decide) ?_
      refine u_iload_n (pc := 73) F dX10_fob_73 1 rfl rfl ?_
      obtain ⟨b6, h⟩ := d_ab_some h
      refine u_aldI (pc := 74) F dX10_fob_74 (hL 7 0 7 (by decide) rfl) rfl b6 rfl ?_
      have h1 := Option.some.inj h
      obtain ⟨hj0, hr0⟩ := Prod.mk.inj h1
      subst hj0
      subst hr0
      exact hR _ _ rfl dX10_fob_75
    rw [if_neg e5] at h
    by_cases e7 : x2 = (2 : Int32)
    · rw [if_pos e7] at h
      refine u_table (pc := 15) F dX10_fob_15 (off := 61) 76 (by rw [e7]; decide) (by rw [e7]; decide) (by rw [e7]; rfl) (by decide) ?_
      refine u_aload_n (pc := 76) F dX10_fob_76 0 rfl rfl ?_
      refine u_getO (pc := 77) F dX10_fob_77 (hL 10 0 0 (by decide) rfl) ck_10 fl_10_26 rfl (by decide) rfl ?_
      refine u_getA (pc := 80) F dX10_fob_80 (hL 4 0 0 (by decide) rfl) ck_4 fl_10_168 rfl (by decide) (by decide) ?_
      refine u_iload_n (pc := 83) F dX10_fob_83 1 rfl rfl ?_
      obtain ⟨b8, h⟩ := d_ab_some h
      refine u_aldI (pc := 84) F dX10_fob_84 (hL 4 0 11 (by decide) rfl) rfl b8 rfl ?_
      have h1 := Option.some.inj h
      obtain ⟨hj0, hr0⟩ := Prod.mk.inj h1
      subst hj0
      subst hr0
      exact hR _ _ rfl dX10_fob_85
    rw [if_neg e7] at h
    by_cases e9 : x2 = (3 : Int32)
    · rw [if_pos e9] at h
      refine u_table (pc := 15) F dX10_fob_15 (off := 71) 86 (by rw [e9]; decide) (by rw [e9]; decide) (by rw [e9]; rfl) (by decide) ?_
      refine u_aload_n (pc := 86) F dX10_fob_86 0 rfl rfl ?_
      refine u_getO (pc := 87) F dX10_fob_87 (hL 10 0 0 (by decide) rfl) ck_10 fl_10_26 rfl (by decide) rfl ?_
      refine u_getA (pc := 90) F dX10_fob_90 (hL 4 0 0 (by decide) rfl) ck_4 fl_10_171 rfl (by decide) (by decide) ?_
      refine u_iload_n (pc := 93) F dX10_fob_93 1 rfl rfl ?_
      obtain ⟨b10, h⟩ := d_ab_some h
      refine u_aldI (pc := 94) F dX10_fob_94 (hL 4 0 12 (by decide) rfl) rfl b10 rfl ?_
      have h1 := Option.some.inj h
      obtain ⟨hj0, hr0⟩ := Prod.mk.inj h1
      subst hj0
      subst hr0
      exact hR _ _ rfl dX10_fob_95
    rw [if_neg e9] at h
    by_cases e11 : x2 = (4 : Int32)
    · rw [if_pos e11] at h
      refine u_table (pc := 15) F dX10_fob_15 (off := 81) 96 (by rw [e11]; decide) (by rw [e11]; decide) (by rw [e11]; rfl) (by decide) ?_
      refine u_aload_n (pc := 96) F dX10_fob_96 0 rfl rfl ?_
      refine u_getO (pc := 97) F dX10_fob_97 (hL 10 0 0 (by decide) rfl) ck_10 fl_10_35 rfl (by decide) rfl ?_
      refine u_getA (pc := 100) F dX10_fob_100 (hL 7 0 0 (by decide) rfl) ck_7 fl_10_174 rfl (by decide) (by decide) ?_
      refine u_iload_n (pc := 103) F dX10_fob_103 1 rfl rfl ?_
      obtain ⟨b12, h⟩ := d_ab_some h
      refine u_aldI (pc := 104) F dX10_fob_104 (hL 7 0 8 (by decide) rfl) rfl b12 rfl ?_
      have h1 := Option.some.inj h
      obtain ⟨hj0, hr0⟩ := Prod.mk.inj h1
      subst hj0
      subst hr0
      exact hR _ _ rfl dX10_fob_105
    rw [if_neg e11] at h
    by_cases e13 : x2 = (5 : Int32)
    · rw [if_pos e13] at h
      refine u_table (pc := 15) F dX10_fob_15 (off := 91) 106 (by rw [e13]; decide) (by rw [e13]; decide) (by rw [e13]; rfl) (by decide) ?_
      refine u_aload_n (pc := 106) F dX10_fob_106 0 rfl rfl ?_
      refine u_getO (pc := 107) F dX10_fob_107 (hL 10 0 0 (by decide) rfl) ck_10 fl_10_35 rfl (by decide) rfl ?_
      refine u_getA (pc := 110) F dX10_fob_110 (hL 7 0 0 (by decide) rfl) ck_7 fl_10_177 rfl (by decide) (by decide) ?_
      refine u_iload_n (pc := 113) F dX10_fob_113 1 rfl rfl ?_
      obtain ⟨b14, h⟩ := d_ab_some h
      refine u_aldI (pc := 114) F dX10_fob_114 (hL 7 0 9 (by decide) rfl) rfl b14 rfl ?_
      have h1 := Option.some.inj h
      obtain ⟨hj0, hr0⟩ := Prod.mk.inj h1
      subst hj0
      subst hr0
      exact hR _ _ rfl dX10_fob_115
    rw [if_neg e13] at h
    by_cases e15 : x2 = (6 : Int32)
    · rw [if_pos e15] at h
      refine u_table (pc := 15) F dX10_fob_15 (off := 101) 116 (by rw [e15]; decide) (by rw [e15]; decide) (by rw [e15]; rfl) (by decide) ?_
      refine u_aload_n (pc := 116) F dX10_fob_116 0 rfl rfl ?_
      refine u_iload_n (pc := 117) F dX10_fob_117 1 rfl rfl ?_
      obtain ⟨q16, hq16, h⟩ := d_bd_some h
      refine u_calli (pc := 118) F (As := [.int x1]) (c_X10_bestPlace G hL x1 σ q16.1 q16.2 hq16) yv_X10_bestPlace ml_10_180 (hL 10 0 0 (by decide) rfl) rfl (by decide) rfl rfl (Nat.le_of_ble_eq_true rfl) dX10_fob_118 ?_
      have h1 := Option.some.inj h
      obtain ⟨hj0, hr0⟩ := Prod.mk.inj h1
      subst hj0
      subst hr0
      exact hR _ _ rfl dX10_fob_121
    rw [if_neg e15] at h
    refine u_tableOut (pc := 15) F dX10_fob_15 122 (by
      have j0 : ¬ x2.toInt = 0 := i32_ne e3
      have j1 : ¬ x2.toInt = 1 := i32_ne e5
      have j2 : ¬ x2.toInt = 2 := i32_ne e7
      have j3 : ¬ x2.toInt = 3 := i32_ne e9
      have j4 : ¬ x2.toInt = 4 := i32_ne e11
      have j5 : ¬ x2.toInt = 5 := i32_ne e13
      have j6 : ¬ x2.toInt = 6 := i32_ne e15
      omega) (by decide) ?_
    refine u_ldc (v := -1000000002) (pc := 122) F dX10_fob_122 kc_10_94 ?_
    have h1 := Option.some.inj h
    obtain ⟨hj0, hr0⟩ := Prod.mk.inj h1
    subst hj0
    subst hr0
    exact hR _ _ rfl dX10_fob_124
  · rw [if_pos c2] at h
    refine u_ldc (v := -1000000001) (pc := 11) F dX10_fob_11 kc_10_160 ?_
    have h1 := Option.some.inj h
    obtain ⟨hj0, hr0⟩ := Prod.mk.inj h1
    subst hj0
    subst hr0
    exact hR _ _ rfl dX10_fob_13
/- RollingCodes.usefulAt -/
def fX10_usefulAt_4  : Nat → Mem → Int32 → Int32 → Int32 → Option (Int32 × Mem)
  | 0, _, _, _, _ => none
  | fu + 1, σ, x1, x2, x3 =>
    if x3 < (σ 7 0 0 4) then (d_bd (fX7_copyFrom (σ 7 1) (σ 7 0)) fun q2 => d_lt (upM σ 7 1 q2) fun m3 => d_ab x3 8 <| d_bd (fX7_hears (m3 7 1) (m3 4 0) x1 (m3 7 0 6 x3.toNatClampNeg)) fun q5 => d_lt (upM m3 7 1 q5.2) fun m6 => if q5.1 = 0 then (d_lt (x3 + (1 : Int32)) fun v8 => fX10_usefulAt_4 fu m6 x1 x2 v8) else (d_lt (x2 ||| ((1 : Int32) <<< (x3 &&& 31))) fun v9 => d_lt (x3 + (1 : Int32)) fun v10 => fX10_usefulAt_4 fu m6 x1 v9 v10)) else (some (x2, σ))
def fX10_usefulAt (σ : Mem) (x1 : Int32) : Option (Int32 × Mem) :=
    fX10_usefulAt_4 1000 σ x1 (0 : Int32) (0 : Int32)
set_option maxHeartbeats 4000000 in
set_option maxRecDepth 100000 in
theorem wX10_usefulAt_4 (Y : Dy) (G : G0) (hL : In G) (F : Fx Y G cX10_usefulAt RX10 4) (hY : Y.2.2.2.2.2.2.2.2.2.2.2.1 = 4) (r : Int32) (σ' : Mem) (hR : ∀ (pc : Nat) (lv : List (Nat × Value)), narrow .int (.int r) = .int r → decode cX10_usefulAt pc = .ok (.ireturn, 1) → U Y G σ' pc lv [.int r]) :
    ∀ (fu : Nat) (σ : Mem) (x1 : Int32) (x2 : Int32) (x3 : Int32), fX10_usefulAt_4 fu σ x1 x2 x3 = some (r, σ') → U Y G σ 4 [(0, .ref (adr G (10, 0, 0))), (1, .int x1), (2, .int x2), (3, .int x3)] [] := by
  intro fu
  induction fu with
  | zero =>
    intro σ x1 x2 x3 h
    rw [fX10_usefulAt_4] at h
    cases h
  | succ fu ih =>
    intro σ x1 x2 x3 h
    rw [fX10_usefulAt_4] at h
    refine u_iload_n (pc := 4) F dX10_usefulAt_4 3 rfl rfl ?_
    refine u_aload_n (pc := 5) F dX10_usefulAt_5 0 rfl rfl ?_
    refine u_getO (pc := 6) F dX10_usefulAt_6 (hL 10 0 0 (by decide) rfl) ck_10 fl_10_35 rfl (by decide) rfl ?_
    refine u_get (pc := 9) F dX10_usefulAt_9 (hL 7 0 0 (by decide) rfl) ck_7 fl_10_142 rfl (by decide) rfl ?_
    refine u_icmp_ge (pc := 12) F 58 dX10_usefulAt_12 (by decide) (fun c1 => ?_) (fun c1 => ?_)
    · rw [if_neg c1] at h
      refine u_iload_n (pc := 58) F dX10_usefulAt_58 2 rfl rfl ?_
      have h1 := Option.some.inj h
      obtain ⟨hj0, hr0⟩ := Prod.mk.inj h1
      subst hj0
      subst hr0
      exact hR _ _ rfl dX10_usefulAt_59
    · rw [if_pos c1] at h
      refine u_aload_n (pc := 15) F dX10_usefulAt_15 0 rfl rfl ?_
      refine u_getO (pc := 16) F dX10_usefulAt_16 (hL 10 0 0 (by decide) rfl) ck_10 fl_10_39 rfl (by decide) rfl ?_
      refine u_aload_n (pc := 19) F dX10_usefulAt_19 0 rfl rfl ?_
      refine u_getO (pc := 20) F dX10_usefulAt_20 (hL 10 0 0 (by decide) rfl) ck_10 fl_10_35 rfl (by decide) rfl ?_
      obtain ⟨q2, hq2, h⟩ := d_bd_some h
      refine u_callv (pc := 23) F (As := [.ref (adr G (7, 0, 0))]) (c_X7_copyFrom G hL 1 (by decide) 0 (by decide) (by decide) σ (σ 7 1) (σ 7 0) (rfl) (rfl) q2 hq2) yv_X7_copyFrom ml_10_264 (hL 7 1 0 (by decide) rfl) rfl (by decide) rfl rfl (Nat.le_of_ble_eq_true rfl) dX10_usefulAt_23 ?_
      obtain ⟨m3, hm3, h⟩ := d_lt_some h
      refine u_mem hm3 ?_
      refine u_aload_n (pc := 26) F dX10_usefulAt_26 0 rfl rfl ?_
      refine u_getO (pc := 27) F dX10_usefulAt_27 (hL 10 0 0 (by decide) rfl) ck_10 fl_10_39 rfl (by decide) rfl ?_
      refine u_iload_n (pc := 30) F dX10_usefulAt_30 1 rfl rfl ?_
      refine u_aload_n (pc := 31) F dX10_usefulAt_31 0 rfl rfl ?_
      refine u_getO (pc := 32) F dX10_usefulAt_32 (hL 10 0 0 (by decide) rfl) ck_10 fl_10_35 rfl (by decide) rfl ?_
      refine u_getA (pc := 35) F dX10_usefulAt_35 (hL 7 0 0 (by decide) rfl) ck_7 fl_10_219 rfl (by decide) (by decide) ?_
      refine u_iload_n (pc := 38) F dX10_usefulAt_38 3 rfl rfl ?_
      obtain ⟨b4, h⟩ := d_ab_some h
      refine u_aldI (pc := 39) F dX10_usefulAt_39 (hL 7 0 6 (by decide) rfl) rfl b4 rfl ?_
      obtain ⟨q5, hq5, h⟩ := d_bd_some h
      refine u_calli (pc := 40) F (As := [.int x1, .int (m3 7 0 6 x3.toNatClampNeg)]) (c_X7_hears G hL 1 (by decide) x1 (m3 7 0 6 x3.toNatClampNeg) m3 (m3 7 1) (m3 4 0) (rfl) (rfl) q5.1 q5.2 hq5) yv_X7_hears ml_10_331 (hL 7 1 0 (by decide) rfl) rfl (by decide) rfl rfl (Nat.le_of_ble_eq_true rfl) dX10_usefulAt_40 ?_
      obtain ⟨m6, hm6, h⟩ := d_lt_some h
      refine u_mem hm6 ?_
      refine u_if_eq (pc := 43) F 52 dX10_usefulAt_43 (by decide) (fun c7 => ?_) (fun c7 => ?_)
      · rw [if_pos c7] at h
        obtain ⟨v8, hv8, h⟩ := d_lt_some h
        refine u_iinc (lv' := [(3, .int v8), (0, .ref (adr G (10, 0, 0))), (1, .int x1), (2, .int x2)]) (pc := 52) F dX10_usefulAt_52 3 rfl hv8.symm hY (by decide) rfl ?_
        refine u_goto (pc := 55) F 4 dX10_usefulAt_55 (by decide) ?_
        refine u_lv (lv' := [(0, .ref (adr G (10, 0, 0))), (1, .int x1), (2, .int x2), (3, .int v8)]) [1, 2, 3, 0] rfl ?_
        exact ih m6 x1 x2 v8 h
      · rw [if_neg c7] at h
        refine u_iload_n (pc := 46) F dX10_usefulAt_46 2 rfl rfl ?_
        refine u_iconst (v := 1) (pc := 47) F dX10_usefulAt_47 (by decide) ?_
        refine u_iload_n (pc := 48) F dX10_usefulAt_48 3 rfl rfl ?_
        refine u_ishl (pc := 49) F dX10_usefulAt_49 ?_
        refine u_ior (pc := 50) F dX10_usefulAt_50 ?_
        obtain ⟨v9, hv9, h⟩ := d_lt_some h
        refine u_topi hv9 ?_
        refine u_istore_n (lv' := [(2, .int v9), (0, .ref (adr G (10, 0, 0))), (1, .int x1), (3, .int x3)]) (pc := 51) F dX10_usefulAt_51 rfl hY (by decide) rfl ?_
        obtain ⟨v10, hv10, h⟩ := d_lt_some h
        refine u_iinc (lv' := [(3, .int v10), (2, .int v9), (0, .ref (adr G (10, 0, 0))), (1, .int x1)]) (pc := 52) F dX10_usefulAt_52 3 rfl hv10.symm hY (by decide) rfl ?_
        refine u_goto (pc := 55) F 4 dX10_usefulAt_55 (by decide) ?_
        refine u_lv (lv' := [(0, .ref (adr G (10, 0, 0))), (1, .int x1), (2, .int v9), (3, .int v10)]) [2, 3, 1, 0] rfl ?_
        exact ih m6 x1 v9 v10 h
set_option maxHeartbeats 4000000 in
set_option maxRecDepth 100000 in
theorem c_X10_usefulAt (G : G0) (hL : In G) (x1 : Int32) (σ : Mem) (r : Int32) (σ' : Mem) (h : fX10_usefulAt σ x1 = some (r, σ')) :
    CI G yX10_usefulAt cX10_usefulAt 4 .int 4 [.ref (adr G (10, 0, 0)), .int x1] σ r (σ') := by
  refine CI.of (by decide +kernel) (Nat.le_of_ble_eq_true rfl) (fun Y hY F hR => ?_)
  unfold fX10_usefulAt at h
  have F : Fx Y G cX10_usefulAt RX10 4 := F
  refine u_lv (lv' := [(0, .ref (adr G (10, 0, 0))), (1, .int x1)]) [0, 1] rfl ?_
  refine u_iconst (v := 0) (pc := 0) F dX10_usefulAt_0 (by decide) ?_
  refine u_istore_n (lv' := [(2, .int (0 : Int32)), (0, .ref (adr G (10, 0, 0))), (1, .int x1)]) (pc := 1) F dX10_usefulAt_1 rfl hY (by decide) rfl ?_
  refine u_iconst (v := 0) (pc := 2) F dX10_usefulAt_2 (by decide) ?_
  refine u_istore_n (lv' := [(3, .int (0 : Int32)), (2, .int (0 : Int32)), (0, .ref (adr G (10, 0, 0))), (1, .int x1)]) (pc := 3) F dX10_usefulAt_3 rfl hY (by decide) rfl ?_
  refine u_lv (lv' := [(0, .ref (adr G (10, 0, 0))), (1, .int x1), (2, .int (0 : Int32)), (3, .int (0 : Int32))]) [2, 3, 1, 0] rfl ?_
  exact wX10_usefulAt_4 Y G hL F hY r σ' hR 1000 σ x1 (0 : Int32) (0 : Int32) h
/- RollingCodes.gate -/
def fX10_gate (σ : Mem) (x1 : Int32) (x2 : Int32) : Option (Int32 × Mem) :=
    d_bd (fX4_isGate (σ 4 0) x1) fun q1 => if q1 = 0 then (some ((-1000000001 : Int32), σ)) else (if x2 = (0 : Int32) then (d_ab x1 4 <| some (σ 4 0 6 x1.toNatClampNeg, σ)) else (if x2 = (1 : Int32) then (d_ab x1 4 <| some (σ 4 0 7 x1.toNatClampNeg, σ)) else (if x2 = (2 : Int32) then (d_ab x1 4 <| some (σ 4 0 8 x1.toNatClampNeg, σ)) else (if x2 = (3 : Int32) then (d_ab x1 4 <| some (σ 7 0 10 x1.toNatClampNeg, σ)) else (if x2 = (4 : Int32) then (d_ab x1 4 <| some (σ 7 0 11 x1.toNatClampNeg, σ)) else (if x2 = (5 : Int32) then (d_ab x1 4 <| some (σ 7 0 12 x1.toNatClampNeg, σ)) else (if x2 = (6 : Int32) then (d_bd (fX10_usefulAt σ x1) fun q16 => some (q16.1, q16.2)) else (some ((-1000000002 : Int32), σ)))))))))
set_option maxHeartbeats 4000000 in
set_option maxRecDepth 100000 in
theorem c_X10_gate (G : G0) (hL : In G) (x1 : Int32) (x2 : Int32) (σ : Mem) (r : Int32) (σ' : Mem) (h : fX10_gate σ x1 x2 = some (r, σ')) :
    CI G yX10_gate cX10_gate 3 .int 5 [.ref (adr G (10, 0, 0)), .int x1, .int x2] σ r (σ') := by
  refine CI.of (by decide +kernel) (Nat.le_of_ble_eq_true rfl) (fun Y hY F hR => ?_)
  unfold fX10_gate at h
  have F : Fx Y G cX10_gate RX10 5 := F
  refine u_lv (lv' := [(0, .ref (adr G (10, 0, 0))), (1, .int x1), (2, .int x2)]) [0, 1, 2] rfl ?_
  refine u_aload_n (pc := 0) F dX10_gate_0 0 rfl rfl ?_
  refine u_getO (pc := 1) F dX10_gate_1 (hL 10 0 0 (by decide) rfl) ck_10 fl_10_26 rfl (by decide) rfl ?_
  refine u_iload_n (pc := 4) F dX10_gate_4 1 rfl rfl ?_
  obtain ⟨q1, hq1, h⟩ := d_bd_some h
  refine u_calli (pc := 5) F (As := [.int x1]) (c_X4_isGate G hL 0 (by decide) x1 σ (σ 4 0) (rfl) q1 hq1) yv_X4_isGate ml_10_184 (hL 4 0 0 (by decide) rfl) rfl (by decide) rfl rfl (Nat.le_of_ble_eq_true rfl) dX10_gate_5 ?_
  refine u_if_ne (pc := 8) F 14 dX10_gate_8 (by decide) (fun c2 => ?_) (fun c2 => ?_)
  · rw [if_neg c2] at h
    refine u_iload_n (pc := 14) F dX10_gate_14 2 rfl rfl ?_
    by_cases e3 : x2 = (0 : Int32)
    · rw [if_pos e3] at h
      refine u_table (pc := 15) F dX10_gate_15 (off := 41) 56 (by rw [e3]; decide) (by rw [e3]; decide) (by rw [e3]; rfl) (by decide) ?_
      refine u_aload_n (pc := 56) F dX10_gate_56 0 rfl rfl ?_
      refine u_getO (pc := 57) F dX10_gate_57 (hL 10 0 0 (by decide) rfl) ck_10 fl_10_26 rfl (by decide) rfl ?_
      refine u_getA (pc := 60) F dX10_gate_60 (hL 4 0 0 (by decide) rfl) ck_4 fl_10_187 rfl (by decide) (by decide) ?_
      refine u_iload_n (pc := 63) F dX10_gate_63 1 rfl rfl ?_
      obtain ⟨b4, h⟩ := d_ab_some h
      refine u_aldI (pc := 64) F dX10_gate_64 (hL 4 0 6 (by decide) rfl) rfl b4 rfl ?_
      have h1 := Option.some.inj h
      obtain ⟨hj0, hr0⟩ := Prod.mk.inj h1
      subst hj0
      subst hr0
      exact hR _ _ rfl dX10_gate_65
    rw [if_neg e3] at h
    by_cases e5 : x2 = (1 : Int32)
    · rw [if_pos e5] at h
      refine u_table (pc := 15) F dX10_gate_15 (off := 51) 66 (by rw [e5]; decide) (by rw [e5]; decide) (by rw [e5]; rfl) (by decide) ?_
      refine u_aload_n (pc := 66) F dX10_gate_66 0 rfl rfl ?_
      refine u_getO (pc := 67) F dX10_gate_67 (hL 10 0 0 (by decide) rfl) ck_10 fl_10_26 rfl (by decide) rfl ?_
      refine u_getA (pc := 70) F dX10_gate_70 (hL 4 0 0 (by decide) rfl) ck_4 fl_10_190 rfl (by decide) (by decide) ?_
      refine u_iload_n (pc := 73) F dX10_gate_73 1 rfl rfl ?_
      obtain ⟨b6, h⟩ := d_ab_some h
      refine u_aldI (pc := 74) F dX10_gate_74 (hL 4 0 7 (by decide) rfl) rfl b6 rfl ?_
      have h1 := Option.some.inj h
      obtain ⟨hj0, hr0⟩ := Prod.mk.inj h1
      subst hj0
      subst hr0
      exact hR _ _ rfl dX10_gate_75
    rw [if_neg e5] at h
    by_cases e7 : x2 = (2 : Int32)
    · rw [if_pos e7] at h
      refine u_table (pc := 15) F dX10_gate_15 (off := 61) 76 (by rw [e7]; decide) (by rw [e7]; decide) (by rw [e7]; rfl) (by decide) ?_
      refine u_aload_n (pc := 76) F dX10_gate_76 0 rfl rfl ?_
      refine u_getO (pc := 77) F dX10_gate_77 (hL 10 0 0 (by decide) rfl) ck_10 fl_10_26 rfl (by decide) rfl ?_
      refine u_getA (pc := 80) F dX10_gate_80 (hL 4 0 0 (by decide) rfl) ck_4 fl_10_193 rfl (by decide) (by decide) ?_
      refine u_iload_n (pc := 83) F dX10_gate_83 1 rfl rfl ?_
      obtain ⟨b8, h⟩ := d_ab_some h
      refine u_aldI (pc := 84) F dX10_gate_84 (hL 4 0 8 (by decide) rfl) rfl b8 rfl ?_
      have h1 := Option.some.inj h
      obtain ⟨hj0, hr0⟩ := Prod.mk.inj h1
      subst hj0
      subst hr0
      exact hR _ _ rfl dX10_gate_85
    rw [if_neg e7] at h
    by_cases e9 : x2 = (3 : Int32)
    · rw [if_pos e9] at h
      refine u_table (pc := 15) F dX10_gate_15 (off := 71) 86 (by rw [e9]; decide) (by rw [e9]; decide) (by rw [e9]; rfl) (by decide) ?_
      refine u_aload_n (pc := 86) F dX10_gate_86 0 rfl rfl ?_
      refine u_getO (pc := 87) F dX10_gate_87 (hL 10 0 0 (by decide) rfl) ck_10 fl_10_35 rfl (by decide) rfl ?_
      refine u_getA (pc := 90) F dX10_gate_90 (hL 7 0 0 (by decide) rfl) ck_7 fl_10_196 rfl (by decide) (by decide) ?_
      refine u_iload_n (pc := 93) F dX10_gate_93 1 rfl rfl ?_
      obtain ⟨b10, h⟩ := d_ab_some h
      refine u_aldI (pc := 94) F dX10_gate_94 (hL 7 0 10 (by decide) rfl) rfl b10 rfl ?_
      have h1 := Option.some.inj h
      obtain ⟨hj0, hr0⟩ := Prod.mk.inj h1
      subst hj0
      subst hr0
      exact hR _ _ rfl dX10_gate_95
    rw [if_neg e9] at h
    by_cases e11 : x2 = (4 : Int32)
    · rw [if_pos e11] at h
      refine u_table (pc := 15) F dX10_gate_15 (off := 81) 96 (by rw [e11]; decide) (by rw [e11]; decide) (by rw [e11]; rfl) (by decide) ?_
      refine u_aload_n (pc := 96) F dX10_gate_96 0 rfl rfl ?_
      refine u_getO (pc := 97) F dX10_gate_97 (hL 10 0 0 (by decide) rfl) ck_10 fl_10_35 rfl (by decide) rfl ?_
      refine u_getA (pc := 100) F dX10_gate_100 (hL 7 0 0 (by decide) rfl) ck_7 fl_10_199 rfl (by decide) (by decide) ?_
      refine u_iload_n (pc := 103) F dX10_gate_103 1 rfl rfl ?_
      obtain ⟨b12, h⟩ := d_ab_some h
      refine u_aldI (pc := 104) F dX10_gate_104 (hL 7 0 11 (by decide) rfl) rfl b12 rfl ?_
      have h1 := Option.some.inj h
      obtain ⟨hj0, hr0⟩ := Prod.mk.inj h1
      subst hj0
      subst hr0
      exact hR _ _ rfl dX10_gate_105
    rw [if_neg e11] at h
    by_cases e13 : x2 = (5 : Int32)
    · rw [if_pos e13] at h
      refine u_table (pc := 15) F dX10_gate_15 (off := 91) 106 (by rw [e13]; decide) (by rw [e13]; decide) (by rw [e13]; rfl) (by decide) ?_
      refine u_aload_n (pc := 106) F dX10_gate_106 0 rfl rfl ?_
      refine u_getO (pc := 107) F dX10_gate_107 (hL 10 0 0 (by decide) rfl) ck_10 fl_10_35 rfl (by decide) rfl ?_
      refine u_getA (pc := 110) F dX10_gate_110 (hL 7 0 0 (by decide) rfl) ck_7 fl_10_202 rfl (by decide) (by decide) ?_
      refine u_iload_n (pc := 113) F dX10_gate_113 1 rfl rfl ?_
      obtain ⟨b14, h⟩ := d_ab_some h
      refine u_aldI (pc := 114) F dX10_gate_114 (hL 7 0 12 (by decide) rfl) rfl b14 rfl ?_
      have h1 := Option.some.inj h
      obtain ⟨hj0, hr0⟩ := Prod.mk.inj h1
      subst hj0
      subst hr0
      exact hR _ _ rfl dX10_gate_115
    rw [if_neg e13] at h
    by_cases e15 : x2 = (6 : Int32)
    · rw [if_pos e15] at h
      refine u_table (pc := 15) F dX10_gate_15 (off := 101) 116 (by rw [e15]; decide) (by rw [e15]; decide) (by rw [e15]; rfl) (by decide) ?_
      refine u_aload_n (pc := 116) F dX10_gate_116 0 rfl rfl ?_
      refine u_iload_n (pc := 117) F dX10_gate_117 1 rfl rfl ?_
      obtain ⟨q16, hq16, h⟩ := d_bd_some h
      refine u_calli (pc := 118) F (As := [.int x1]) (c_X10_usefulAt G hL x1 σ q16.1 q16.2 hq16) yv_X10_usefulAt ml_10_205 (hL 10 0 0 (by decide) rfl) rfl (by decide) rfl rfl (Nat.le_of_ble_eq_true rfl) dX10_gate_118 ?_
      have h1 := Option.some.inj h
      obtain ⟨hj0, hr0⟩ := Prod.mk.inj h1
      subst hj0
      subst hr0
      exact hR _ _ rfl dX10_gate_121
    rw [if_neg e15] at h
    refine u_tableOut (pc := 15) F dX10_gate_15 122 (by
      have j0 : ¬ x2.toInt = 0 := i32_ne e3
      have j1 : ¬ x2.toInt = 1 := i32_ne e5
      have j2 : ¬ x2.toInt = 2 := i32_ne e7
      have j3 : ¬ x2.toInt = 3 := i32_ne e9
      have j4 : ¬ x2.toInt = 4 := i32_ne e11
      have j5 : ¬ x2.toInt = 5 := i32_ne e13
      have j6 : ¬ x2.toInt = 6 := i32_ne e15
      omega) (by decide) ?_
    refine u_ldc (v := -1000000002) (pc := 122) F dX10_gate_122 kc_10_94 ?_
    have h1 := Option.some.inj h
    obtain ⟨hj0, hr0⟩ := Prod.mk.inj h1
    subst hj0
    subst hr0
    exact hR _ _ rfl dX10_gate_124
  · rw [if_pos c2] at h
    refine u_ldc (v := -1000000001) (pc := 11) F dX10_gate_11 kc_10_160 ?_
    have h1 := Option.some.inj h
    obtain ⟨hj0, hr0⟩ := Prod.mk.inj h1
    subst hj0
    subst hr0
    exact hR _ _ rfl dX10_gate_13
/- RollingCodes.areKnown -/
def fX10_areKnown (σ : Mem) (x1 : Int32) (x2 : Int32) : Option (Int32) :=
    d_bd (fX4_isGate (σ 4 0) x1) fun q1 => if q1 = 0 then (some (0 : Int32)) else (d_bd (fX4_isFob (σ 4 0) x2) fun q3 => if q3 = 0 then (some (0 : Int32)) else (some (1 : Int32)))
set_option maxHeartbeats 4000000 in
set_option maxRecDepth 100000 in
theorem c_X10_areKnown (G : G0) (hL : In G) (x1 : Int32) (x2 : Int32) (σ : Mem) (r : Int32) (h : fX10_areKnown σ x1 x2 = some r) :
    CI G yX10_areKnown cX10_areKnown 3 .boolean 2 [.ref (adr G (10, 0, 0)), .int x1, .int x2] σ r σ := by
  refine CI.of (by decide +kernel) (Nat.le_of_ble_eq_true rfl) (fun Y hY F hR => ?_)
  unfold fX10_areKnown at h
  have F : Fx Y G cX10_areKnown RX10 2 := F
  refine u_lv (lv' := [(0, .ref (adr G (10, 0, 0))), (1, .int x1), (2, .int x2)]) [0, 1, 2] rfl ?_
  refine u_aload_n (pc := 0) F dX10_areKnown_0 0 rfl rfl ?_
  refine u_getO (pc := 1) F dX10_areKnown_1 (hL 10 0 0 (by decide) rfl) ck_10 fl_10_26 rfl (by decide) rfl ?_
  refine u_iload_n (pc := 4) F dX10_areKnown_4 1 rfl rfl ?_
  obtain ⟨q1, hq1, h⟩ := d_bd_some h
  refine u_calli (pc := 5) F (As := [.int x1]) (c_X4_isGate G hL 0 (by decide) x1 σ (σ 4 0) (rfl) q1 hq1) yv_X4_isGate ml_10_184 (hL 4 0 0 (by decide) rfl) rfl (by decide) rfl rfl (Nat.le_of_ble_eq_true rfl) dX10_areKnown_5 ?_
  refine u_if_eq (pc := 8) F 26 dX10_areKnown_8 (by decide) (fun c2 => ?_) (fun c2 => ?_)
  · rw [if_pos c2] at h
    refine u_iconst (v := 0) (pc := 26) F dX10_areKnown_26 (by decide) ?_
    have h1 := Option.some.inj h
    subst h1
    exact hR _ _ rfl dX10_areKnown_27
  · rw [if_neg c2] at h
    refine u_aload_n (pc := 11) F dX10_areKnown_11 0 rfl rfl ?_
    refine u_getO (pc := 12) F dX10_areKnown_12 (hL 10 0 0 (by decide) rfl) ck_10 fl_10_26 rfl (by decide) rfl ?_
    refine u_iload_n (pc := 15) F dX10_areKnown_15 2 rfl rfl ?_
    obtain ⟨q3, hq3, h⟩ := d_bd_some h
    refine u_calli (pc := 16) F (As := [.int x2]) (c_X4_isFob G hL 0 (by decide) x2 σ (σ 4 0) (rfl) q3 hq3) yv_X4_isFob ml_10_157 (hL 4 0 0 (by decide) rfl) rfl (by decide) rfl rfl (Nat.le_of_ble_eq_true rfl) dX10_areKnown_16 ?_
    refine u_if_eq (pc := 19) F 26 dX10_areKnown_19 (by decide) (fun c4 => ?_) (fun c4 => ?_)
    · rw [if_pos c4] at h
      refine u_iconst (v := 0) (pc := 26) F dX10_areKnown_26 (by decide) ?_
      have h1 := Option.some.inj h
      subst h1
      exact hR _ _ rfl dX10_areKnown_27
    · rw [if_neg c4] at h
      refine u_iconst (v := 1) (pc := 22) F dX10_areKnown_22 (by decide) ?_
      refine u_goto (pc := 23) F 27 dX10_areKnown_23 (by decide) ?_
      have h1 := Option.some.inj h
      subst h1
      exact hR _ _ rfl dX10_areKnown_27
/- RollingCodes.last -/
def fX10_last (σ : Mem) (x1 : Int32) (x2 : Int32) : Option (Int32) :=
    d_bd (fX10_areKnown σ x1 x2) fun q1 => if q1 = 0 then (some (-1000000001 : Int32)) else (d_bd (fX7_lastOf (σ 7 0) x1 x2) fun q3 => some q3)
set_option maxHeartbeats 4000000 in
set_option maxRecDepth 100000 in
theorem c_X10_last (G : G0) (hL : In G) (x1 : Int32) (x2 : Int32) (σ : Mem) (r : Int32) (h : fX10_last σ x1 x2 = some r) :
    CI G yX10_last cX10_last 3 .int 3 [.ref (adr G (10, 0, 0)), .int x1, .int x2] σ r σ := by
  refine CI.of (by decide +kernel) (Nat.le_of_ble_eq_true rfl) (fun Y hY F hR => ?_)
  unfold fX10_last at h
  have F : Fx Y G cX10_last RX10 3 := F
  refine u_lv (lv' := [(0, .ref (adr G (10, 0, 0))), (1, .int x1), (2, .int x2)]) [0, 1, 2] rfl ?_
  refine u_aload_n (pc := 0) F dX10_last_0 0 rfl rfl ?_
  refine u_iload_n (pc := 1) F dX10_last_1 1 rfl rfl ?_
  refine u_iload_n (pc := 2) F dX10_last_2 2 rfl rfl ?_
  obtain ⟨q1, hq1, h⟩ := d_bd_some h
  refine u_calli (pc := 3) F (As := [.int x1, .int x2]) (c_X10_areKnown G hL x1 x2 σ q1 hq1) yv_X10_areKnown ml_10_208 (hL 10 0 0 (by decide) rfl) rfl (by decide) rfl rfl (Nat.le_of_ble_eq_true rfl) dX10_last_3 ?_
  refine u_if_eq (pc := 6) F 21 dX10_last_6 (by decide) (fun c2 => ?_) (fun c2 => ?_)
  · rw [if_pos c2] at h
    refine u_ldc (v := -1000000001) (pc := 21) F dX10_last_21 kc_10_160 ?_
    have h1 := Option.some.inj h
    subst h1
    exact hR _ _ rfl dX10_last_23
  · rw [if_neg c2] at h
    refine u_aload_n (pc := 9) F dX10_last_9 0 rfl rfl ?_
    refine u_getO (pc := 10) F dX10_last_10 (hL 10 0 0 (by decide) rfl) ck_10 fl_10_35 rfl (by decide) rfl ?_
    refine u_iload_n (pc := 13) F dX10_last_13 1 rfl rfl ?_
    refine u_iload_n (pc := 14) F dX10_last_14 2 rfl rfl ?_
    obtain ⟨q3, hq3, h⟩ := d_bd_some h
    refine u_calli (pc := 15) F (As := [.int x1, .int x2]) (c_X7_lastOf G hL 0 (by decide) x1 x2 σ (σ 7 0) (rfl) q3 hq3) yv_X7_lastOf ml_10_212 (hL 7 0 0 (by decide) rfl) rfl (by decide) rfl rfl (Nat.le_of_ble_eq_true rfl) dX10_last_15 ?_
    refine u_goto (pc := 18) F 23 dX10_last_18 (by decide) ?_
    have h1 := Option.some.inj h
    subst h1
    exact hR _ _ rfl dX10_last_23
/- RollingCodes.kept -/
def fX10_kept (σ : Mem) (x1 : Int32) : Option (Int32) :=
    d_bd (fX7_isKept (σ 7 0) x1) fun q1 => if q1 = 0 then (some (-1 : Int32)) else (d_ab x1 8 <| some (σ 7 0 6 x1.toNatClampNeg))
set_option maxHeartbeats 4000000 in
set_option maxRecDepth 100000 in
theorem c_X10_kept (G : G0) (hL : In G) (x1 : Int32) (σ : Mem) (r : Int32) (h : fX10_kept σ x1 = some r) :
    CI G yX10_kept cX10_kept 2 .int 2 [.ref (adr G (10, 0, 0)), .int x1] σ r σ := by
  refine CI.of (by decide +kernel) (Nat.le_of_ble_eq_true rfl) (fun Y hY F hR => ?_)
  unfold fX10_kept at h
  have F : Fx Y G cX10_kept RX10 2 := F
  refine u_lv (lv' := [(0, .ref (adr G (10, 0, 0))), (1, .int x1)]) [0, 1] rfl ?_
  refine u_aload_n (pc := 0) F dX10_kept_0 0 rfl rfl ?_
  refine u_getO (pc := 1) F dX10_kept_1 (hL 10 0 0 (by decide) rfl) ck_10 fl_10_35 rfl (by decide) rfl ?_
  refine u_iload_n (pc := 4) F dX10_kept_4 1 rfl rfl ?_
  obtain ⟨q1, hq1, h⟩ := d_bd_some h
  refine u_calli (pc := 5) F (As := [.int x1]) (c_X7_isKept G hL 0 (by decide) x1 σ (σ 7 0) (rfl) q1 hq1) yv_X7_isKept ml_10_216 (hL 7 0 0 (by decide) rfl) rfl (by decide) rfl rfl (Nat.le_of_ble_eq_true rfl) dX10_kept_5 ?_
  refine u_if_eq (pc := 8) F 23 dX10_kept_8 (by decide) (fun c2 => ?_) (fun c2 => ?_)
  · rw [if_pos c2] at h
    refine u_iconst (v := -1) (pc := 23) F dX10_kept_23 (by decide) ?_
    have h1 := Option.some.inj h
    subst h1
    exact hR _ _ rfl dX10_kept_24
  · rw [if_neg c2] at h
    refine u_aload_n (pc := 11) F dX10_kept_11 0 rfl rfl ?_
    refine u_getO (pc := 12) F dX10_kept_12 (hL 10 0 0 (by decide) rfl) ck_10 fl_10_35 rfl (by decide) rfl ?_
    refine u_getA (pc := 15) F dX10_kept_15 (hL 7 0 0 (by decide) rfl) ck_7 fl_10_219 rfl (by decide) (by decide) ?_
    refine u_iload_n (pc := 18) F dX10_kept_18 1 rfl rfl ?_
    obtain ⟨b3, h⟩ := d_ab_some h
    refine u_aldI (pc := 19) F dX10_kept_19 (hL 7 0 6 (by decide) rfl) rfl b3 rfl ?_
    refine u_goto (pc := 20) F 24 dX10_kept_20 (by decide) ?_
    have h1 := Option.some.inj h
    subst h1
    exact hR _ _ rfl dX10_kept_24
/- RollingCodes.code -/
def fX10_code (σ : Mem) (x1 : Int32) (x2 : Int32) : Option (Int32) :=
    if x1 < 0 then (some (-1000000002 : Int32)) else (if x1 < (256 : Int32) then (if x2 < 0 then (some (-1000000002 : Int32)) else (if x2 < (10000 : Int32) then (d_bd (fX10_codeOf x1 x2) fun q5 => some q5) else (some (-1000000002 : Int32)))) else (some (-1000000002 : Int32)))
set_option maxHeartbeats 4000000 in
set_option maxRecDepth 100000 in
theorem c_X10_code (G : G0) (hL : In G) (x1 : Int32) (x2 : Int32) (σ : Mem) (r : Int32) (h : fX10_code σ x1 x2 = some r) :
    CI G yX10_code cX10_code 3 .int 2 [.ref (adr G (10, 0, 0)), .int x1, .int x2] σ r σ := by
  refine CI.of (by decide +kernel) (Nat.le_of_ble_eq_true rfl) (fun Y hY F hR => ?_)
  unfold fX10_code at h
  have F : Fx Y G cX10_code RX10 2 := F
  refine u_lv (lv' := [(0, .ref (adr G (10, 0, 0))), (1, .int x1), (2, .int x2)]) [0, 1, 2] rfl ?_
  refine u_iload_n (pc := 0) F dX10_code_0 1 rfl rfl ?_
  refine u_if_lt (pc := 1) F 22 dX10_code_1 (by decide) (fun c1 => ?_) (fun c1 => ?_)
  · rw [if_pos c1] at h
    refine u_ldc (v := -1000000002) (pc := 22) F dX10_code_22 kc_10_94 ?_
    have h1 := Option.some.inj h
    subst h1
    exact hR _ _ rfl dX10_code_24
  · rw [if_neg c1] at h
    refine u_iload_n (pc := 4) F dX10_code_4 1 rfl rfl ?_
    refine u_sipush (v := 256) (pc := 5) F dX10_code_5 (by decide) ?_
    refine u_icmp_ge (pc := 8) F 22 dX10_code_8 (by decide) (fun c2 => ?_) (fun c2 => ?_)
    · rw [if_neg c2] at h
      refine u_ldc (v := -1000000002) (pc := 22) F dX10_code_22 kc_10_94 ?_
      have h1 := Option.some.inj h
      subst h1
      exact hR _ _ rfl dX10_code_24
    · rw [if_pos c2] at h
      refine u_iload_n (pc := 11) F dX10_code_11 2 rfl rfl ?_
      refine u_if_lt (pc := 12) F 22 dX10_code_12 (by decide) (fun c3 => ?_) (fun c3 => ?_)
      · rw [if_pos c3] at h
        refine u_ldc (v := -1000000002) (pc := 22) F dX10_code_22 kc_10_94 ?_
        have h1 := Option.some.inj h
        subst h1
        exact hR _ _ rfl dX10_code_24
      · rw [if_neg c3] at h
        refine u_iload_n (pc := 15) F dX10_code_15 2 rfl rfl ?_
        refine u_sipush (v := 10000) (pc := 16) F dX10_code_16 (by decide) ?_
        refine u_icmp_lt (pc := 19) F 25 dX10_code_19 (by decide) (fun c4 => ?_) (fun c4 => ?_)
        · rw [if_pos c4] at h
          refine u_iload_n (pc := 25) F dX10_code_25 1 rfl rfl ?_
          refine u_iload_n (pc := 26) F dX10_code_26 2 rfl rfl ?_
          obtain ⟨q5, hq5, h⟩ := d_bd_some h
          refine u_callSi (pc := 27) F (As := [.int x1, .int x2]) (c_X10_codeOf G hL x1 x2 σ q5 hq5) ys_X10_codeOf ml_10_222 (by decide) rfl rfl (Nat.le_of_ble_eq_true rfl) dX10_code_27 ?_
          have h1 := Option.some.inj h
          subst h1
          exact hR _ _ rfl dX10_code_30
        · rw [if_neg c4] at h
          refine u_ldc (v := -1000000002) (pc := 22) F dX10_code_22 kc_10_94 ?_
          have h1 := Option.some.inj h
          subst h1
          exact hR _ _ rfl dX10_code_24
/- RollingCodes.press -/
def fX10_press (σ : Mem) (x1 : Int32) : Option (Int32 × Mem) :=
    d_bd (fX4_isFob (σ 4 0) x1) fun q1 => if q1 = 0 then (some ((-1000000001 : Int32), σ)) else (d_ab x1 5 <| if (σ 7 0 9 x1.toNatClampNeg) ≤ 0 then (some ((-1000000003 : Int32), σ)) else (d_bd (fX3_remember σ) fun q5 => d_ab x1 5 <| d_bd (fX7_pressedFrom (q5 7 0) (q5 4 0) x1 (q5 7 0 7 x1.toNatClampNeg)) fun q7 => d_lt (upM q5 7 0 q7.2) fun m8 => some (q7.1, m8)))
set_option maxHeartbeats 4000000 in
set_option maxRecDepth 100000 in
theorem c_X10_press (G : G0) (hL : In G) (x1 : Int32) (σ : Mem) (r : Int32) (σ' : Mem) (h : fX10_press σ x1 = some (r, σ')) :
    CI G yX10_press cX10_press 2 .int 6 [.ref (adr G (10, 0, 0)), .int x1] σ r (σ') := by
  refine CI.of (by decide +kernel) (Nat.le_of_ble_eq_true rfl) (fun Y hY F hR => ?_)
  unfold fX10_press at h
  have F : Fx Y G cX10_press RX10 6 := F
  refine u_lv (lv' := [(0, .ref (adr G (10, 0, 0))), (1, .int x1)]) [0, 1] rfl ?_
  refine u_aload_n (pc := 0) F dX10_press_0 0 rfl rfl ?_
  refine u_getO (pc := 1) F dX10_press_1 (hL 10 0 0 (by decide) rfl) ck_10 fl_10_26 rfl (by decide) rfl ?_
  refine u_iload_n (pc := 4) F dX10_press_4 1 rfl rfl ?_
  obtain ⟨q1, hq1, h⟩ := d_bd_some h
  refine u_calli (pc := 5) F (As := [.int x1]) (c_X4_isFob G hL 0 (by decide) x1 σ (σ 4 0) (rfl) q1 hq1) yv_X4_isFob ml_10_157 (hL 4 0 0 (by decide) rfl) rfl (by decide) rfl rfl (Nat.le_of_ble_eq_true rfl) dX10_press_5 ?_
  refine u_if_ne (pc := 8) F 14 dX10_press_8 (by decide) (fun c2 => ?_) (fun c2 => ?_)
  · rw [if_neg c2] at h
    refine u_aload_n (pc := 14) F dX10_press_14 0 rfl rfl ?_
    refine u_getO (pc := 15) F dX10_press_15 (hL 10 0 0 (by decide) rfl) ck_10 fl_10_35 rfl (by decide) rfl ?_
    refine u_getA (pc := 18) F dX10_press_18 (hL 7 0 0 (by decide) rfl) ck_7 fl_10_177 rfl (by decide) (by decide) ?_
    refine u_iload_n (pc := 21) F dX10_press_21 1 rfl rfl ?_
    obtain ⟨b3, h⟩ := d_ab_some h
    refine u_aldI (pc := 22) F dX10_press_22 (hL 7 0 9 (by decide) rfl) rfl b3 rfl ?_
    refine u_if_gt (pc := 23) F 29 dX10_press_23 (by decide) (fun c4 => ?_) (fun c4 => ?_)
    · rw [if_neg c4] at h
      refine u_aload_n (pc := 29) F dX10_press_29 0 rfl rfl ?_
      refine u_getO (pc := 30) F dX10_press_30 (hL 10 0 0 (by decide) rfl) ck_10 fl_10_45 rfl (by decide) rfl ?_
      refine u_aload_n (pc := 33) F dX10_press_33 0 rfl rfl ?_
      refine u_getO (pc := 34) F dX10_press_34 (hL 10 0 0 (by decide) rfl) ck_10 fl_10_35 rfl (by decide) rfl ?_
      obtain ⟨q5, hq5, h⟩ := d_bd_some h
      refine u_callv (pc := 37) F (As := [.ref (adr G (7, 0, 0))]) (c_X3_remember G hL σ q5 hq5) yv_X3_remember ml_10_226 (hL 3 0 0 (by decide) rfl) rfl (by decide) rfl rfl (Nat.le_of_ble_eq_true rfl) dX10_press_37 ?_
      refine u_aload_n (pc := 40) F dX10_press_40 0 rfl rfl ?_
      refine u_getO (pc := 41) F dX10_press_41 (hL 10 0 0 (by decide) rfl) ck_10 fl_10_35 rfl (by decide) rfl ?_
      refine u_iload_n (pc := 44) F dX10_press_44 1 rfl rfl ?_
      refine u_aload_n (pc := 45) F dX10_press_45 0 rfl rfl ?_
      refine u_getO (pc := 46) F dX10_press_46 (hL 10 0 0 (by decide) rfl) ck_10 fl_10_35 rfl (by decide) rfl ?_
      refine u_getA (pc := 49) F dX10_press_49 (hL 7 0 0 (by decide) rfl) ck_7 fl_10_165 rfl (by decide) (by decide) ?_
      refine u_iload_n (pc := 52) F dX10_press_52 1 rfl rfl ?_
      obtain ⟨b6, h⟩ := d_ab_some h
      refine u_aldI (pc := 53) F dX10_press_53 (hL 7 0 7 (by decide) rfl) rfl b6 rfl ?_
      obtain ⟨q7, hq7, h⟩ := d_bd_some h
      refine u_calli (pc := 54) F (As := [.int x1, .int (q5 7 0 7 x1.toNatClampNeg)]) (c_X7_pressedFrom G hL 0 (by decide) x1 (q5 7 0 7 x1.toNatClampNeg) q5 (q5 7 0) (q5 4 0) (rfl) (rfl) q7.1 q7.2 hq7) yv_X7_pressedFrom ml_10_230 (hL 7 0 0 (by decide) rfl) rfl (by decide) rfl rfl (Nat.le_of_ble_eq_true rfl) dX10_press_54 ?_
      obtain ⟨m8, hm8, h⟩ := d_lt_some h
      refine u_mem hm8 ?_
      have h1 := Option.some.inj h
      obtain ⟨hj0, hr0⟩ := Prod.mk.inj h1
      subst hj0
      subst hr0
      exact hR _ _ rfl dX10_press_57
    · rw [if_pos c4] at h
      refine u_ldc (v := -1000000003) (pc := 26) F dX10_press_26 kc_10_225 ?_
      have h1 := Option.some.inj h
      obtain ⟨hj0, hr0⟩ := Prod.mk.inj h1
      subst hj0
      subst hr0
      exact hR _ _ rfl dX10_press_28
  · rw [if_pos c2] at h
    refine u_ldc (v := -1000000001) (pc := 11) F dX10_press_11 kc_10_160 ?_
    have h1 := Option.some.inj h
    obtain ⟨hj0, hr0⟩ := Prod.mk.inj h1
    subst hj0
    subst hr0
    exact hR _ _ rfl dX10_press_13
/- RollingCodes.step -/
def fX10_step (σ : Mem) (x1 : Int32) (x2 : Int32) : Option (Int32 × Mem) :=
    d_bd (fX4_isFob (σ 4 0) x1) fun q1 => if q1 = 0 then (some ((-1000000001 : Int32), σ)) else (d_bd (fX10_isPlace x2) fun q3 => if q3 = 0 then (some ((-1000000002 : Int32), σ)) else (d_ab x1 5 <| d_lt (σ 7 0 7 x1.toNatClampNeg) fun v6 => if v6 = x2 then (some ((-1000000003 : Int32), σ)) else (d_bd (fX3_remember σ) fun q8 => d_ab x1 5 <| d_lt (upM q8 7 0 (wr (q8 7 0) 7 x1.toNatClampNeg x2)) fun m10 => some (v6, m10))))
set_option maxHeartbeats 4000000 in
set_option maxRecDepth 100000 in
theorem c_X10_step (G : G0) (hL : In G) (x1 : Int32) (x2 : Int32) (σ : Mem) (r : Int32) (σ' : Mem) (h : fX10_step σ x1 x2 = some (r, σ')) :
    CI G yX10_step cX10_step 4 .int 3 [.ref (adr G (10, 0, 0)), .int x1, .int x2] σ r (σ') := by
  refine CI.of (by decide +kernel) (Nat.le_of_ble_eq_true rfl) (fun Y hY F hR => ?_)
  unfold fX10_step at h
  have F : Fx Y G cX10_step RX10 3 := F
  refine u_lv (lv' := [(0, .ref (adr G (10, 0, 0))), (1, .int x1), (2, .int x2)]) [0, 1, 2] rfl ?_
  refine u_aload_n (pc := 0) F dX10_step_0 0 rfl rfl ?_
  refine u_getO (pc := 1) F dX10_step_1 (hL 10 0 0 (by decide) rfl) ck_10 fl_10_26 rfl (by decide) rfl ?_
  refine u_iload_n (pc := 4) F dX10_step_4 1 rfl rfl ?_
  obtain ⟨q1, hq1, h⟩ := d_bd_some h
  refine u_calli (pc := 5) F (As := [.int x1]) (c_X4_isFob G hL 0 (by decide) x1 σ (σ 4 0) (rfl) q1 hq1) yv_X4_isFob ml_10_157 (hL 4 0 0 (by decide) rfl) rfl (by decide) rfl rfl (Nat.le_of_ble_eq_true rfl) dX10_step_5 ?_
  refine u_if_ne (pc := 8) F 14 dX10_step_8 (by decide) (fun c2 => ?_) (fun c2 => ?_)
  · rw [if_neg c2] at h
    refine u_iload_n (pc := 14) F dX10_step_14 2 rfl rfl ?_
    obtain ⟨q3, hq3, h⟩ := d_bd_some h
    refine u_callSi (pc := 15) F (As := [.int x2]) (c_X10_isPlace G hL x2 σ q3 hq3) ys_X10_isPlace ml_10_233 (by decide) rfl rfl (Nat.le_of_ble_eq_true rfl) dX10_step_15 ?_
    refine u_if_ne (pc := 18) F 24 dX10_step_18 (by decide) (fun c4 => ?_) (fun c4 => ?_)
    · rw [if_neg c4] at h
      refine u_aload_n (pc := 24) F dX10_step_24 0 rfl rfl ?_
      refine u_getO (pc := 25) F dX10_step_25 (hL 10 0 0 (by decide) rfl) ck_10 fl_10_35 rfl (by decide) rfl ?_
      refine u_getA (pc := 28) F dX10_step_28 (hL 7 0 0 (by decide) rfl) ck_7 fl_10_165 rfl (by decide) (by decide) ?_
      refine u_iload_n (pc := 31) F dX10_step_31 1 rfl rfl ?_
      obtain ⟨b5, h⟩ := d_ab_some h
      refine u_aldI (pc := 32) F dX10_step_32 (hL 7 0 7 (by decide) rfl) rfl b5 rfl ?_
      obtain ⟨v6, hv6, h⟩ := d_lt_some h
      refine u_topi hv6 ?_
      refine u_istore_n (lv' := [(3, .int v6), (0, .ref (adr G (10, 0, 0))), (1, .int x1), (2, .int x2)]) (pc := 33) F dX10_step_33 rfl hY (by decide) rfl ?_
      refine u_iload_n (pc := 34) F dX10_step_34 0 rfl rfl ?_
      refine u_iload_n (pc := 35) F dX10_step_35 3 rfl rfl ?_
      refine u_icmp_ne (pc := 36) F 42 dX10_step_36 (by decide) (fun c7 => ?_) (fun c7 => ?_)
      · rw [if_neg c7] at h
        refine u_aload_n (pc := 42) F dX10_step_42 1 rfl rfl ?_
        refine u_getO (pc := 43) F dX10_step_43 (hL 10 0 0 (by decide) rfl) ck_10 fl_10_45 rfl (by decide) rfl ?_
        refine u_aload_n (pc := 46) F dX10_step_46 1 rfl rfl ?_
        refine u_getO (pc := 47) F dX10_step_47 (hL 10 0 0 (by decide) rfl) ck_10 fl_10_35 rfl (by decide) rfl ?_
        obtain ⟨q8, hq8, h⟩ := d_bd_some h
        refine u_callv (pc := 50) F (As := [.ref (adr G (7, 0, 0))]) (c_X3_remember G hL σ q8 hq8) yv_X3_remember ml_10_226 (hL 3 0 0 (by decide) rfl) rfl (by decide) rfl rfl (Nat.le_of_ble_eq_true rfl) dX10_step_50 ?_
        refine u_aload_n (pc := 53) F dX10_step_53 1 rfl rfl ?_
        refine u_getO (pc := 54) F dX10_step_54 (hL 10 0 0 (by decide) rfl) ck_10 fl_10_35 rfl (by decide) rfl ?_
        refine u_getA (pc := 57) F dX10_step_57 (hL 7 0 0 (by decide) rfl) ck_7 fl_10_165 rfl (by decide) (by decide) ?_
        refine u_iload_n (pc := 60) F dX10_step_60 2 rfl rfl ?_
        refine u_iload_n (pc := 61) F dX10_step_61 3 rfl rfl ?_
        obtain ⟨b9, h⟩ := d_ab_some h
        refine u_astI (pc := 62) F dX10_step_62 (hL 7 0 7 (by decide) rfl) rfl b9 rfl ?_
        obtain ⟨m10, hm10, h⟩ := d_lt_some h
        refine u_mem hm10 ?_
        refine u_iload_n (pc := 63) F dX10_step_63 0 rfl rfl ?_
        have h1 := Option.some.inj h
        obtain ⟨hj0, hr0⟩ := Prod.mk.inj h1
        subst hj0
        subst hr0
        exact hR _ _ rfl dX10_step_64
      · rw [if_pos c7] at h
        refine u_ldc (v := -1000000003) (pc := 39) F dX10_step_39 kc_10_225 ?_
        have h1 := Option.some.inj h
        obtain ⟨hj0, hr0⟩ := Prod.mk.inj h1
        subst hj0
        subst hr0
        exact hR _ _ rfl dX10_step_41
    · rw [if_pos c4] at h
      refine u_ldc (v := -1000000002) (pc := 21) F dX10_step_21 kc_10_94 ?_
      have h1 := Option.some.inj h
      obtain ⟨hj0, hr0⟩ := Prod.mk.inj h1
      subst hj0
      subst hr0
      exact hR _ _ rfl dX10_step_23
  · rw [if_pos c2] at h
    refine u_ldc (v := -1000000001) (pc := 11) F dX10_step_11 kc_10_160 ?_
    have h1 := Option.some.inj h
    obtain ⟨hj0, hr0⟩ := Prod.mk.inj h1
    subst hj0
    subst hr0
    exact hR _ _ rfl dX10_step_13
/- RollingCodes.earTo -/
def fX10_earTo (σ : Mem) (x1 : Int32) : Option (Int32 × Mem) :=
    d_bd (fX10_isPlace x1) fun q1 => if q1 = 0 then (some ((-1000000002 : Int32), σ)) else (d_lt (σ 7 0 0 2) fun v3 => if (σ 4 0 0 0) = 0 then (some ((-1000000003 : Int32), σ)) else (if v3 = x1 then (some ((-1000000003 : Int32), σ)) else (d_bd (fX3_remember σ) fun q6 => d_lt (upM q6 7 0 (wr (q6 7 0) 0 2 x1)) fun m7 => some (v3, m7))))
set_option maxHeartbeats 4000000 in
set_option maxRecDepth 100000 in
theorem c_X10_earTo (G : G0) (hL : In G) (x1 : Int32) (σ : Mem) (r : Int32) (σ' : Mem) (h : fX10_earTo σ x1 = some (r, σ')) :
    CI G yX10_earTo cX10_earTo 3 .int 3 [.ref (adr G (10, 0, 0)), .int x1] σ r (σ') := by
  refine CI.of (by decide +kernel) (Nat.le_of_ble_eq_true rfl) (fun Y hY F hR => ?_)
  unfold fX10_earTo at h
  have F : Fx Y G cX10_earTo RX10 3 := F
  refine u_lv (lv' := [(0, .ref (adr G (10, 0, 0))), (1, .int x1)]) [0, 1] rfl ?_
  refine u_iload_n (pc := 0) F dX10_earTo_0 1 rfl rfl ?_
  obtain ⟨q1, hq1, h⟩ := d_bd_some h
  refine u_callSi (pc := 1) F (As := [.int x1]) (c_X10_isPlace G hL x1 σ q1 hq1) ys_X10_isPlace ml_10_233 (by decide) rfl rfl (Nat.le_of_ble_eq_true rfl) dX10_earTo_1 ?_
  refine u_if_ne (pc := 4) F 10 dX10_earTo_4 (by decide) (fun c2 => ?_) (fun c2 => ?_)
  · rw [if_neg c2] at h
    refine u_aload_n (pc := 10) F dX10_earTo_10 0 rfl rfl ?_
    refine u_getO (pc := 11) F dX10_earTo_11 (hL 10 0 0 (by decide) rfl) ck_10 fl_10_35 rfl (by decide) rfl ?_
    refine u_get (pc := 14) F dX10_earTo_14 (hL 7 0 0 (by decide) rfl) ck_7 fl_10_136 rfl (by decide) rfl ?_
    obtain ⟨v3, hv3, h⟩ := d_lt_some h
    refine u_topi hv3 ?_
    refine u_istore_n (lv' := [(2, .int v3), (0, .ref (adr G (10, 0, 0))), (1, .int x1)]) (pc := 17) F dX10_earTo_17 rfl hY (by decide) rfl ?_
    refine u_aload_n (pc := 18) F dX10_earTo_18 1 rfl rfl ?_
    refine u_getO (pc := 19) F dX10_earTo_19 (hL 10 0 0 (by decide) rfl) ck_10 fl_10_26 rfl (by decide) rfl ?_
    refine u_get (pc := 22) F dX10_earTo_22 (hL 4 0 0 (by decide) rfl) ck_4 fl_10_126 rfl (by decide) rfl ?_
    refine u_if_eq (pc := 25) F 33 dX10_earTo_25 (by decide) (fun c4 => ?_) (fun c4 => ?_)
    · rw [if_pos c4] at h
      refine u_ldc (v := -1000000003) (pc := 33) F dX10_earTo_33 kc_10_225 ?_
      have h1 := Option.some.inj h
      obtain ⟨hj0, hr0⟩ := Prod.mk.inj h1
      subst hj0
      subst hr0
      exact hR _ _ rfl dX10_earTo_35
    · rw [if_neg c4] at h
      refine u_iload_n (pc := 28) F dX10_earTo_28 0 rfl rfl ?_
      refine u_iload_n (pc := 29) F dX10_earTo_29 2 rfl rfl ?_
      refine u_icmp_ne (pc := 30) F 36 dX10_earTo_30 (by decide) (fun c5 => ?_) (fun c5 => ?_)
      · rw [if_neg c5] at h
        refine u_aload_n (pc := 36) F dX10_earTo_36 1 rfl rfl ?_
        refine u_getO (pc := 37) F dX10_earTo_37 (hL 10 0 0 (by decide) rfl) ck_10 fl_10_45 rfl (by decide) rfl ?_
        refine u_aload_n (pc := 40) F dX10_earTo_40 1 rfl rfl ?_
        refine u_getO (pc := 41) F dX10_earTo_41 (hL 10 0 0 (by decide) rfl) ck_10 fl_10_35 rfl (by decide) rfl ?_
        obtain ⟨q6, hq6, h⟩ := d_bd_some h
        refine u_callv (pc := 44) F (As := [.ref (adr G (7, 0, 0))]) (c_X3_remember G hL σ q6 hq6) yv_X3_remember ml_10_226 (hL 3 0 0 (by decide) rfl) rfl (by decide) rfl rfl (Nat.le_of_ble_eq_true rfl) dX10_earTo_44 ?_
        refine u_aload_n (pc := 47) F dX10_earTo_47 1 rfl rfl ?_
        refine u_getO (pc := 48) F dX10_earTo_48 (hL 10 0 0 (by decide) rfl) ck_10 fl_10_35 rfl (by decide) rfl ?_
        refine u_iload_n (pc := 51) F dX10_earTo_51 2 rfl rfl ?_
        refine u_put (pc := 52) F dX10_earTo_52 (hL 7 0 0 (by decide) rfl) ck_7 fl_10_136 rfl (by decide) rfl (ty0 := .int) (by decide +kernel) rfl rfl ?_
        obtain ⟨m7, hm7, h⟩ := d_lt_some h
        refine u_mem hm7 ?_
        refine u_iload_n (pc := 55) F dX10_earTo_55 0 rfl rfl ?_
        have h1 := Option.some.inj h
        obtain ⟨hj0, hr0⟩ := Prod.mk.inj h1
        subst hj0
        subst hr0
        exact hR _ _ rfl dX10_earTo_56
      · rw [if_pos c5] at h
        refine u_ldc (v := -1000000003) (pc := 33) F dX10_earTo_33 kc_10_225 ?_
        have h1 := Option.some.inj h
        obtain ⟨hj0, hr0⟩ := Prod.mk.inj h1
        subst hj0
        subst hr0
        exact hR _ _ rfl dX10_earTo_35
  · rw [if_pos c2] at h
    refine u_ldc (v := -1000000002) (pc := 7) F dX10_earTo_7 kc_10_94 ?_
    have h1 := Option.some.inj h
    obtain ⟨hj0, hr0⟩ := Prod.mk.inj h1
    subst hj0
    subst hr0
    exact hR _ _ rfl dX10_earTo_9
/- RollingCodes.noise -/
def fX10_noise (σ : Mem) (x1 : Int32) (x2 : Int32) : Option (Int32 × Mem) :=
    d_bd (fX4_isGate (σ 4 0) x1) fun q1 => if q1 = 0 then (some ((-1000000001 : Int32), σ)) else (d_bd (fX7_isNoisy (σ 7 0) x1) fun q3 => if q3 = x2 then (some ((-1000000003 : Int32), σ)) else (d_bd (fX3_remember σ) fun q5 => d_bd (fX7_turnNoise (q5 7 0) x1) fun q6 => d_lt (upM q5 7 0 q6) fun m7 => some (m7 7 0 0 3, m7)))
set_option maxHeartbeats 4000000 in
set_option maxRecDepth 100000 in
theorem c_X10_noise (G : G0) (hL : In G) (x1 : Int32) (x2 : Int32) (σ : Mem) (r : Int32) (σ' : Mem) (h : fX10_noise σ x1 x2 = some (r, σ')) :
    CI G yX10_noise cX10_noise 3 .int 3 [.ref (adr G (10, 0, 0)), .int x1, .int x2] σ r (σ') := by
  refine CI.of (by decide +kernel) (Nat.le_of_ble_eq_true rfl) (fun Y hY F hR => ?_)
  unfold fX10_noise at h
  have F : Fx Y G cX10_noise RX10 3 := F
  refine u_lv (lv' := [(0, .ref (adr G (10, 0, 0))), (1, .int x1), (2, .int x2)]) [0, 1, 2] rfl ?_
  refine u_aload_n (pc := 0) F dX10_noise_0 0 rfl rfl ?_
  refine u_getO (pc := 1) F dX10_noise_1 (hL 10 0 0 (by decide) rfl) ck_10 fl_10_26 rfl (by decide) rfl ?_
  refine u_iload_n (pc := 4) F dX10_noise_4 1 rfl rfl ?_
  obtain ⟨q1, hq1, h⟩ := d_bd_some h
  refine u_calli (pc := 5) F (As := [.int x1]) (c_X4_isGate G hL 0 (by decide) x1 σ (σ 4 0) (rfl) q1 hq1) yv_X4_isGate ml_10_184 (hL 4 0 0 (by decide) rfl) rfl (by decide) rfl rfl (Nat.le_of_ble_eq_true rfl) dX10_noise_5 ?_
  refine u_if_ne (pc := 8) F 14 dX10_noise_8 (by decide) (fun c2 => ?_) (fun c2 => ?_)
  · rw [if_neg c2] at h
    refine u_aload_n (pc := 14) F dX10_noise_14 0 rfl rfl ?_
    refine u_getO (pc := 15) F dX10_noise_15 (hL 10 0 0 (by decide) rfl) ck_10 fl_10_35 rfl (by decide) rfl ?_
    refine u_iload_n (pc := 18) F dX10_noise_18 1 rfl rfl ?_
    obtain ⟨q3, hq3, h⟩ := d_bd_some h
    refine u_calli (pc := 19) F (As := [.int x1]) (c_X7_isNoisy G hL 0 (by decide) x1 σ (σ 7 0) (rfl) q3 hq3) yv_X7_isNoisy ml_10_236 (hL 7 0 0 (by decide) rfl) rfl (by decide) rfl rfl (Nat.le_of_ble_eq_true rfl) dX10_noise_19 ?_
    refine u_iload_n (pc := 22) F dX10_noise_22 2 rfl rfl ?_
    refine u_icmp_ne (pc := 23) F 29 dX10_noise_23 (by decide) (fun c4 => ?_) (fun c4 => ?_)
    · rw [if_neg c4] at h
      refine u_aload_n (pc := 29) F dX10_noise_29 0 rfl rfl ?_
      refine u_getO (pc := 30) F dX10_noise_30 (hL 10 0 0 (by decide) rfl) ck_10 fl_10_45 rfl (by decide) rfl ?_
      refine u_aload_n (pc := 33) F dX10_noise_33 0 rfl rfl ?_
      refine u_getO (pc := 34) F dX10_noise_34 (hL 10 0 0 (by decide) rfl) ck_10 fl_10_35 rfl (by decide) rfl ?_
      obtain ⟨q5, hq5, h⟩ := d_bd_some h
      refine u_callv (pc := 37) F (As := [.ref (adr G (7, 0, 0))]) (c_X3_remember G hL σ q5 hq5) yv_X3_remember ml_10_226 (hL 3 0 0 (by decide) rfl) rfl (by decide) rfl rfl (Nat.le_of_ble_eq_true rfl) dX10_noise_37 ?_
      refine u_aload_n (pc := 40) F dX10_noise_40 0 rfl rfl ?_
      refine u_getO (pc := 41) F dX10_noise_41 (hL 10 0 0 (by decide) rfl) ck_10 fl_10_35 rfl (by decide) rfl ?_
      refine u_iload_n (pc := 44) F dX10_noise_44 1 rfl rfl ?_
      obtain ⟨q6, hq6, h⟩ := d_bd_some h
      refine u_callv (pc := 45) F (As := [.int x1]) (c_X7_turnNoise G hL 0 (by decide) x1 q5 (q5 7 0) (rfl) q6 hq6) yv_X7_turnNoise ml_10_239 (hL 7 0 0 (by decide) rfl) rfl (by decide) rfl rfl (Nat.le_of_ble_eq_true rfl) dX10_noise_45 ?_
      obtain ⟨m7, hm7, h⟩ := d_lt_some h
      refine u_mem hm7 ?_
      refine u_aload_n (pc := 48) F dX10_noise_48 0 rfl rfl ?_
      refine u_getO (pc := 49) F dX10_noise_49 (hL 10 0 0 (by decide) rfl) ck_10 fl_10_35 rfl (by decide) rfl ?_
      refine u_get (pc := 52) F dX10_noise_52 (hL 7 0 0 (by decide) rfl) ck_7 fl_10_145 rfl (by decide) rfl ?_
      have h1 := Option.some.inj h
      obtain ⟨hj0, hr0⟩ := Prod.mk.inj h1
      subst hj0
      subst hr0
      exact hR _ _ rfl dX10_noise_55
    · rw [if_pos c4] at h
      refine u_ldc (v := -1000000003) (pc := 26) F dX10_noise_26 kc_10_225 ?_
      have h1 := Option.some.inj h
      obtain ⟨hj0, hr0⟩ := Prod.mk.inj h1
      subst hj0
      subst hr0
      exact hR _ _ rfl dX10_noise_28
  · rw [if_pos c2] at h
    refine u_ldc (v := -1000000001) (pc := 11) F dX10_noise_11 kc_10_160 ?_
    have h1 := Option.some.inj h
    obtain ⟨hj0, hr0⟩ := Prod.mk.inj h1
    subst hj0
    subst hr0
    exact hR _ _ rfl dX10_noise_13
/- RollingCodes.teach -/
def fX10_teach (σ : Mem) (x1 : Int32) (x2 : Int32) : Option (Int32 × Mem) :=
    d_bd (fX10_areKnown σ x1 x2) fun q1 => if q1 = 0 then (some ((-1000000001 : Int32), σ)) else (d_bd (fX3_remember σ) fun q3 => d_bd (fX7_taught (q3 7 0) x1 x2) fun q4 => d_lt (upM q3 7 0 q4) fun m5 => d_bd (fX7_lastOf (m5 7 0) x1 x2) fun q6 => some (q6, m5))
set_option maxHeartbeats 4000000 in
set_option maxRecDepth 100000 in
theorem c_X10_teach (G : G0) (hL : In G) (x1 : Int32) (x2 : Int32) (σ : Mem) (r : Int32) (σ' : Mem) (h : fX10_teach σ x1 x2 = some (r, σ')) :
    CI G yX10_teach cX10_teach 3 .int 3 [.ref (adr G (10, 0, 0)), .int x1, .int x2] σ r (σ') := by
  refine CI.of (by decide +kernel) (Nat.le_of_ble_eq_true rfl) (fun Y hY F hR => ?_)
  unfold fX10_teach at h
  have F : Fx Y G cX10_teach RX10 3 := F
  refine u_lv (lv' := [(0, .ref (adr G (10, 0, 0))), (1, .int x1), (2, .int x2)]) [0, 1, 2] rfl ?_
  refine u_aload_n (pc := 0) F dX10_teach_0 0 rfl rfl ?_
  refine u_iload_n (pc := 1) F dX10_teach_1 1 rfl rfl ?_
  refine u_iload_n (pc := 2) F dX10_teach_2 2 rfl rfl ?_
  obtain ⟨q1, hq1, h⟩ := d_bd_some h
  refine u_calli (pc := 3) F (As := [.int x1, .int x2]) (c_X10_areKnown G hL x1 x2 σ q1 hq1) yv_X10_areKnown ml_10_208 (hL 10 0 0 (by decide) rfl) rfl (by decide) rfl rfl (Nat.le_of_ble_eq_true rfl) dX10_teach_3 ?_
  refine u_if_ne (pc := 6) F 12 dX10_teach_6 (by decide) (fun c2 => ?_) (fun c2 => ?_)
  · rw [if_neg c2] at h
    refine u_aload_n (pc := 12) F dX10_teach_12 0 rfl rfl ?_
    refine u_getO (pc := 13) F dX10_teach_13 (hL 10 0 0 (by decide) rfl) ck_10 fl_10_45 rfl (by decide) rfl ?_
    refine u_aload_n (pc := 16) F dX10_teach_16 0 rfl rfl ?_
    refine u_getO (pc := 17) F dX10_teach_17 (hL 10 0 0 (by decide) rfl) ck_10 fl_10_35 rfl (by decide) rfl ?_
    obtain ⟨q3, hq3, h⟩ := d_bd_some h
    refine u_callv (pc := 20) F (As := [.ref (adr G (7, 0, 0))]) (c_X3_remember G hL σ q3 hq3) yv_X3_remember ml_10_226 (hL 3 0 0 (by decide) rfl) rfl (by decide) rfl rfl (Nat.le_of_ble_eq_true rfl) dX10_teach_20 ?_
    refine u_aload_n (pc := 23) F dX10_teach_23 0 rfl rfl ?_
    refine u_getO (pc := 24) F dX10_teach_24 (hL 10 0 0 (by decide) rfl) ck_10 fl_10_35 rfl (by decide) rfl ?_
    refine u_iload_n (pc := 27) F dX10_teach_27 1 rfl rfl ?_
    refine u_iload_n (pc := 28) F dX10_teach_28 2 rfl rfl ?_
    obtain ⟨q4, hq4, h⟩ := d_bd_some h
    refine u_callv (pc := 29) F (As := [.int x1, .int x2]) (c_X7_taught G hL 0 (by decide) x1 x2 q3 (q3 7 0) (rfl) q4 hq4) yv_X7_taught ml_10_243 (hL 7 0 0 (by decide) rfl) rfl (by decide) rfl rfl (Nat.le_of_ble_eq_true rfl) dX10_teach_29 ?_
    obtain ⟨m5, hm5, h⟩ := d_lt_some h
    refine u_mem hm5 ?_
    refine u_aload_n (pc := 32) F dX10_teach_32 0 rfl rfl ?_
    refine u_getO (pc := 33) F dX10_teach_33 (hL 10 0 0 (by decide) rfl) ck_10 fl_10_35 rfl (by decide) rfl ?_
    refine u_iload_n (pc := 36) F dX10_teach_36 1 rfl rfl ?_
    refine u_iload_n (pc := 37) F dX10_teach_37 2 rfl rfl ?_
    obtain ⟨q6, hq6, h⟩ := d_bd_some h
    refine u_calli (pc := 38) F (As := [.int x1, .int x2]) (c_X7_lastOf G hL 0 (by decide) x1 x2 m5 (m5 7 0) (rfl) q6 hq6) yv_X7_lastOf ml_10_212 (hL 7 0 0 (by decide) rfl) rfl (by decide) rfl rfl (Nat.le_of_ble_eq_true rfl) dX10_teach_38 ?_
    have h1 := Option.some.inj h
    obtain ⟨hj0, hr0⟩ := Prod.mk.inj h1
    subst hj0
    subst hr0
    exact hR _ _ rfl dX10_teach_41
  · rw [if_pos c2] at h
    refine u_ldc (v := -1000000001) (pc := 9) F dX10_teach_9 kc_10_160 ?_
    have h1 := Option.some.inj h
    obtain ⟨hj0, hr0⟩ := Prod.mk.inj h1
    subst hj0
    subst hr0
    exact hR _ _ rfl dX10_teach_11
/- RollingCodes.again -/
def fX10_again (σ : Mem) (x1 : Int32) : Option (Int32 × Mem) :=
    d_bd (fX7_isKept (σ 7 0) x1) fun q1 => if q1 = 0 then (some ((-1000000001 : Int32), σ)) else (d_bd (fX3_remember σ) fun q3 => d_bd (fX7_sentAgain (q3 7 0) (q3 4 0) x1) fun q4 => d_lt (upM q3 7 0 q4.2) fun m5 => some (q4.1, m5))
set_option maxHeartbeats 4000000 in
set_option maxRecDepth 100000 in
theorem c_X10_again (G : G0) (hL : In G) (x1 : Int32) (σ : Mem) (r : Int32) (σ' : Mem) (h : fX10_again σ x1 = some (r, σ')) :
    CI G yX10_again cX10_again 2 .int 6 [.ref (adr G (10, 0, 0)), .int x1] σ r (σ') := by
  refine CI.of (by decide +kernel) (Nat.le_of_ble_eq_true rfl) (fun Y hY F hR => ?_)
  unfold fX10_again at h
  have F : Fx Y G cX10_again RX10 6 := F
  refine u_lv (lv' := [(0, .ref (adr G (10, 0, 0))), (1, .int x1)]) [0, 1] rfl ?_
  refine u_aload_n (pc := 0) F dX10_again_0 0 rfl rfl ?_
  refine u_getO (pc := 1) F dX10_again_1 (hL 10 0 0 (by decide) rfl) ck_10 fl_10_35 rfl (by decide) rfl ?_
  refine u_iload_n (pc := 4) F dX10_again_4 1 rfl rfl ?_
  obtain ⟨q1, hq1, h⟩ := d_bd_some h
  refine u_calli (pc := 5) F (As := [.int x1]) (c_X7_isKept G hL 0 (by decide) x1 σ (σ 7 0) (rfl) q1 hq1) yv_X7_isKept ml_10_216 (hL 7 0 0 (by decide) rfl) rfl (by decide) rfl rfl (Nat.le_of_ble_eq_true rfl) dX10_again_5 ?_
  refine u_if_ne (pc := 8) F 14 dX10_again_8 (by decide) (fun c2 => ?_) (fun c2 => ?_)
  · rw [if_neg c2] at h
    refine u_aload_n (pc := 14) F dX10_again_14 0 rfl rfl ?_
    refine u_getO (pc := 15) F dX10_again_15 (hL 10 0 0 (by decide) rfl) ck_10 fl_10_45 rfl (by decide) rfl ?_
    refine u_aload_n (pc := 18) F dX10_again_18 0 rfl rfl ?_
    refine u_getO (pc := 19) F dX10_again_19 (hL 10 0 0 (by decide) rfl) ck_10 fl_10_35 rfl (by decide) rfl ?_
    obtain ⟨q3, hq3, h⟩ := d_bd_some h
    refine u_callv (pc := 22) F (As := [.ref (adr G (7, 0, 0))]) (c_X3_remember G hL σ q3 hq3) yv_X3_remember ml_10_226 (hL 3 0 0 (by decide) rfl) rfl (by decide) rfl rfl (Nat.le_of_ble_eq_true rfl) dX10_again_22 ?_
    refine u_aload_n (pc := 25) F dX10_again_25 0 rfl rfl ?_
    refine u_getO (pc := 26) F dX10_again_26 (hL 10 0 0 (by decide) rfl) ck_10 fl_10_35 rfl (by decide) rfl ?_
    refine u_iload_n (pc := 29) F dX10_again_29 1 rfl rfl ?_
    obtain ⟨q4, hq4, h⟩ := d_bd_some h
    refine u_calli (pc := 30) F (As := [.int x1]) (c_X7_sentAgain G hL 0 (by decide) x1 q3 (q3 7 0) (q3 4 0) (rfl) (rfl) q4.1 q4.2 hq4) yv_X7_sentAgain ml_10_247 (hL 7 0 0 (by decide) rfl) rfl (by decide) rfl rfl (Nat.le_of_ble_eq_true rfl) dX10_again_30 ?_
    obtain ⟨m5, hm5, h⟩ := d_lt_some h
    refine u_mem hm5 ?_
    have h1 := Option.some.inj h
    obtain ⟨hj0, hr0⟩ := Prod.mk.inj h1
    subst hj0
    subst hr0
    exact hR _ _ rfl dX10_again_33
  · rw [if_pos c2] at h
    refine u_ldc (v := -1000000001) (pc := 11) F dX10_again_11 kc_10_160 ?_
    have h1 := Option.some.inj h
    obtain ⟨hj0, hr0⟩ := Prod.mk.inj h1
    subst hj0
    subst hr0
    exact hR _ _ rfl dX10_again_13
/- RollingCodes.fill -/
def fX10_fill (σ : Mem) (x1 : Int32) : Option (Int32 × Mem) :=
    d_bd (fX4_isFob (σ 4 0) x1) fun q1 => if q1 = 0 then (some ((-1000000001 : Int32), σ)) else (d_bd (fX3_remember σ) fun q3 => d_ab x1 5 <| d_lt (q3 7 0 9 x1.toNatClampNeg) fun v5 => d_ab x1 5 <| d_lt (upM q3 7 0 (wr (q3 7 0) 9 x1.toNatClampNeg (60 : Int32))) fun m7 => some (v5, m7))
set_option maxHeartbeats 4000000 in
set_option maxRecDepth 100000 in
theorem c_X10_fill (G : G0) (hL : In G) (x1 : Int32) (σ : Mem) (r : Int32) (σ' : Mem) (h : fX10_fill σ x1 = some (r, σ')) :
    CI G yX10_fill cX10_fill 3 .int 3 [.ref (adr G (10, 0, 0)), .int x1] σ r (σ') := by
  refine CI.of (by decide +kernel) (Nat.le_of_ble_eq_true rfl) (fun Y hY F hR => ?_)
  unfold fX10_fill at h
  have F : Fx Y G cX10_fill RX10 3 := F
  refine u_lv (lv' := [(0, .ref (adr G (10, 0, 0))), (1, .int x1)]) [0, 1] rfl ?_
  refine u_aload_n (pc := 0) F dX10_fill_0 0 rfl rfl ?_
  refine u_getO (pc := 1) F dX10_fill_1 (hL 10 0 0 (by decide) rfl) ck_10 fl_10_26 rfl (by decide) rfl ?_
  refine u_iload_n (pc := 4) F dX10_fill_4 1 rfl rfl ?_
  obtain ⟨q1, hq1, h⟩ := d_bd_some h
  refine u_calli (pc := 5) F (As := [.int x1]) (c_X4_isFob G hL 0 (by decide) x1 σ (σ 4 0) (rfl) q1 hq1) yv_X4_isFob ml_10_157 (hL 4 0 0 (by decide) rfl) rfl (by decide) rfl rfl (Nat.le_of_ble_eq_true rfl) dX10_fill_5 ?_
  refine u_if_ne (pc := 8) F 14 dX10_fill_8 (by decide) (fun c2 => ?_) (fun c2 => ?_)
  · rw [if_neg c2] at h
    refine u_aload_n (pc := 14) F dX10_fill_14 0 rfl rfl ?_
    refine u_getO (pc := 15) F dX10_fill_15 (hL 10 0 0 (by decide) rfl) ck_10 fl_10_45 rfl (by decide) rfl ?_
    refine u_aload_n (pc := 18) F dX10_fill_18 0 rfl rfl ?_
    refine u_getO (pc := 19) F dX10_fill_19 (hL 10 0 0 (by decide) rfl) ck_10 fl_10_35 rfl (by decide) rfl ?_
    obtain ⟨q3, hq3, h⟩ := d_bd_some h
    refine u_callv (pc := 22) F (As := [.ref (adr G (7, 0, 0))]) (c_X3_remember G hL σ q3 hq3) yv_X3_remember ml_10_226 (hL 3 0 0 (by decide) rfl) rfl (by decide) rfl rfl (Nat.le_of_ble_eq_true rfl) dX10_fill_22 ?_
    refine u_aload_n (pc := 25) F dX10_fill_25 0 rfl rfl ?_
    refine u_getO (pc := 26) F dX10_fill_26 (hL 10 0 0 (by decide) rfl) ck_10 fl_10_35 rfl (by decide) rfl ?_
    refine u_getA (pc := 29) F dX10_fill_29 (hL 7 0 0 (by decide) rfl) ck_7 fl_10_177 rfl (by decide) (by decide) ?_
    refine u_iload_n (pc := 32) F dX10_fill_32 1 rfl rfl ?_
    obtain ⟨b4, h⟩ := d_ab_some h
    refine u_aldI (pc := 33) F dX10_fill_33 (hL 7 0 9 (by decide) rfl) rfl b4 rfl ?_
    obtain ⟨v5, hv5, h⟩ := d_lt_some h
    refine u_topi hv5 ?_
    refine u_istore_n (lv' := [(2, .int v5), (0, .ref (adr G (10, 0, 0))), (1, .int x1)]) (pc := 34) F dX10_fill_34 rfl hY (by decide) rfl ?_
    refine u_aload_n (pc := 35) F dX10_fill_35 1 rfl rfl ?_
    refine u_getO (pc := 36) F dX10_fill_36 (hL 10 0 0 (by decide) rfl) ck_10 fl_10_35 rfl (by decide) rfl ?_
    refine u_getA (pc := 39) F dX10_fill_39 (hL 7 0 0 (by decide) rfl) ck_7 fl_10_177 rfl (by decide) (by decide) ?_
    refine u_iload_n (pc := 42) F dX10_fill_42 2 rfl rfl ?_
    refine u_bipush (v := 60) (pc := 43) F dX10_fill_43 (by decide) ?_
    obtain ⟨b6, h⟩ := d_ab_some h
    refine u_astI (pc := 45) F dX10_fill_45 (hL 7 0 9 (by decide) rfl) rfl b6 rfl ?_
    obtain ⟨m7, hm7, h⟩ := d_lt_some h
    refine u_mem hm7 ?_
    refine u_iload_n (pc := 46) F dX10_fill_46 0 rfl rfl ?_
    have h1 := Option.some.inj h
    obtain ⟨hj0, hr0⟩ := Prod.mk.inj h1
    subst hj0
    subst hr0
    exact hR _ _ rfl dX10_fill_47
  · rw [if_pos c2] at h
    refine u_ldc (v := -1000000001) (pc := 11) F dX10_fill_11 kc_10_160 ?_
    have h1 := Option.some.inj h
    obtain ⟨hj0, hr0⟩ := Prod.mk.inj h1
    subst hj0
    subst hr0
    exact hR _ _ rfl dX10_fill_13
