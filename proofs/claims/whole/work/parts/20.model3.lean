/- RollingCodesModel.gate -/
def fX11_gate (mo : Grp) (x1 : Int32) (x2 : Int32) : Option (Int32 × Grp) :=
    d_bd (fX11_isGate mo x1) fun q1 => if q1 = 0 then (some ((-1000000001 : Int32), mo)) else (if x2 = (0 : Int32) then (d_ab x1 4 <| some (mo 5 x1.toNatClampNeg, mo)) else (if x2 = (1 : Int32) then (d_ab x1 4 <| some (mo 6 x1.toNatClampNeg, mo)) else (if x2 = (2 : Int32) then (d_ab x1 4 <| some (mo 7 x1.toNatClampNeg, mo)) else (if x2 = (3 : Int32) then (d_ab ((26 : Int32) + x1) 59 <| some (mo 14 ((26 : Int32) + x1).toNatClampNeg, mo)) else (if x2 = (4 : Int32) then (d_ab ((30 : Int32) + x1) 59 <| some (mo 14 ((30 : Int32) + x1).toNatClampNeg, mo)) else (if x2 = (5 : Int32) then (d_ab ((34 : Int32) + x1) 59 <| some (mo 14 ((34 : Int32) + x1).toNatClampNeg, mo)) else (if x2 = (6 : Int32) then (d_bd (fX11_usefulAt mo x1) fun q16 => some (q16.1, q16.2)) else (some ((-1000000002 : Int32), mo)))))))))
set_option maxHeartbeats 4000000 in
set_option maxRecDepth 100000 in
theorem c_X11_gate (G : G0) (hL : Im G) (x1 : Int32) (x2 : Int32) (σ : Mem) (mo : Grp) (e_mo : σ 11 0 = mo) (r : Int32) (mo' : Grp) (h : fX11_gate mo x1 x2 = some (r, mo')) :
    CI G yX11_gate cX11_gate 3 .int 5 [.ref (adr G (11, 0, 0)), .int x1, .int x2] σ r (upM σ 11 0 (mo')) := by
  refine CI.of (by decide +kernel) (Nat.le_of_ble_eq_true rfl) (fun Y hY F hR => ?_)
  unfold fX11_gate at h
  have F : Fx Y G cX11_gate RX11 5 := F
  refine u_mem (σ2 := (upM σ 11 0 mo)) (by rw [← e_mo]; simp only [upM_self]) ?_
  refine u_lv (lv' := [(0, .ref (adr G (11, 0, 0))), (1, .int x1), (2, .int x2)]) [0, 1, 2] rfl ?_
  refine u_aload_n (pc := 0) F dX11_gate_0 0 rfl rfl ?_
  refine u_iload_n (pc := 1) F dX11_gate_1 1 rfl rfl ?_
  obtain ⟨q1, hq1, h⟩ := d_bd_some h
  refine u_calli (pc := 2) F (As := [.int x1]) (c_X11_isGate G hL x1 (upM σ 11 0 mo) mo (upM_same _ _ _ _) q1 hq1) yv_X11_isGate ml_11_242 (hL 11 0 0 (by decide) rfl) rfl (by decide) rfl rfl (Nat.le_of_ble_eq_true rfl) dX11_gate_2 ?_
  refine u_if_ne (pc := 5) F 11 dX11_gate_5 (by decide) (fun c2 => ?_) (fun c2 => ?_)
  · rw [if_neg c2] at h
    refine u_iload_n (pc := 11) F dX11_gate_11 2 rfl rfl ?_
    by_cases e3 : x2 = (0 : Int32)
    · rw [if_pos e3] at h
      refine u_table (pc := 12) F dX11_gate_12 (off := 44) 56 (by rw [e3]; decide) (by rw [e3]; decide) (by rw [e3]; rfl) (by decide) ?_
      refine u_aload_n (pc := 56) F dX11_gate_56 0 rfl rfl ?_
      refine u_getA (pc := 57) F dX11_gate_57 (hL 11 0 0 (by decide) rfl) ck_11 fl_11_7 rfl (by decide) (by decide) ?_
      refine u_iload_n (pc := 60) F dX11_gate_60 1 rfl rfl ?_
      obtain ⟨b4, h⟩ := d_ab_some h
      refine u_aldI1 (pc := 61) F dX11_gate_61 (hL 11 0 5 (by decide) rfl) rfl b4 ?_
      have h1 := Option.some.inj h
      obtain ⟨hj0, hr0⟩ := Prod.mk.inj h1
      subst hj0
      subst hr0
      exact hR _ _ rfl dX11_gate_62
    rw [if_neg e3] at h
    by_cases e5 : x2 = (1 : Int32)
    · rw [if_pos e5] at h
      refine u_table (pc := 12) F dX11_gate_12 (off := 51) 63 (by rw [e5]; decide) (by rw [e5]; decide) (by rw [e5]; rfl) (by decide) ?_
      refine u_aload_n (pc := 63) F dX11_gate_63 0 rfl rfl ?_
      refine u_getA (pc := 64) F dX11_gate_64 (hL 11 0 0 (by decide) rfl) ck_11 fl_11_13 rfl (by decide) (by decide) ?_
      refine u_iload_n (pc := 67) F dX11_gate_67 1 rfl rfl ?_
      obtain ⟨b6, h⟩ := d_ab_some h
      refine u_aldI1 (pc := 68) F dX11_gate_68 (hL 11 0 6 (by decide) rfl) rfl b6 ?_
      have h1 := Option.some.inj h
      obtain ⟨hj0, hr0⟩ := Prod.mk.inj h1
      subst hj0
      subst hr0
      exact hR _ _ rfl dX11_gate_69
    rw [if_neg e5] at h
    by_cases e7 : x2 = (2 : Int32)
    · rw [if_pos e7] at h
      refine u_table (pc := 12) F dX11_gate_12 (off := 58) 70 (by rw [e7]; decide) (by rw [e7]; decide) (by rw [e7]; rfl) (by decide) ?_
      refine u_aload_n (pc := 70) F dX11_gate_70 0 rfl rfl ?_
      refine u_getA (pc := 71) F dX11_gate_71 (hL 11 0 0 (by decide) rfl) ck_11 fl_11_16 rfl (by decide) (by decide) ?_
      refine u_iload_n (pc := 74) F dX11_gate_74 1 rfl rfl ?_
      obtain ⟨b8, h⟩ := d_ab_some h
      refine u_aldI1 (pc := 75) F dX11_gate_75 (hL 11 0 7 (by decide) rfl) rfl b8 ?_
      have h1 := Option.some.inj h
      obtain ⟨hj0, hr0⟩ := Prod.mk.inj h1
      subst hj0
      subst hr0
      exact hR _ _ rfl dX11_gate_76
    rw [if_neg e7] at h
    by_cases e9 : x2 = (3 : Int32)
    · rw [if_pos e9] at h
      refine u_table (pc := 12) F dX11_gate_12 (off := 65) 77 (by rw [e9]; decide) (by rw [e9]; decide) (by rw [e9]; rfl) (by decide) ?_
      refine u_aload_n (pc := 77) F dX11_gate_77 0 rfl rfl ?_
      refine u_getA (pc := 78) F dX11_gate_78 (hL 11 0 0 (by decide) rfl) ck_11 fl_11_34 rfl (by decide) (by decide) ?_
      refine u_bipush (v := 26) (pc := 81) F dX11_gate_81 (by decide) ?_
      refine u_iload_n (pc := 83) F dX11_gate_83 1 rfl rfl ?_
      refine u_iadd (pc := 84) F dX11_gate_84 ?_
      obtain ⟨b10, h⟩ := d_ab_some h
      refine u_aldI1 (pc := 85) F dX11_gate_85 (hL 11 0 14 (by decide) rfl) rfl b10 ?_
      have h1 := Option.some.inj h
      obtain ⟨hj0, hr0⟩ := Prod.mk.inj h1
      subst hj0
      subst hr0
      exact hR _ _ rfl dX11_gate_86
    rw [if_neg e9] at h
    by_cases e11 : x2 = (4 : Int32)
    · rw [if_pos e11] at h
      refine u_table (pc := 12) F dX11_gate_12 (off := 75) 87 (by rw [e11]; decide) (by rw [e11]; decide) (by rw [e11]; rfl) (by decide) ?_
      refine u_aload_n (pc := 87) F dX11_gate_87 0 rfl rfl ?_
      refine u_getA (pc := 88) F dX11_gate_88 (hL 11 0 0 (by decide) rfl) ck_11 fl_11_34 rfl (by decide) (by decide) ?_
      refine u_bipush (v := 30) (pc := 91) F dX11_gate_91 (by decide) ?_
      refine u_iload_n (pc := 93) F dX11_gate_93 1 rfl rfl ?_
      refine u_iadd (pc := 94) F dX11_gate_94 ?_
      obtain ⟨b12, h⟩ := d_ab_some h
      refine u_aldI1 (pc := 95) F dX11_gate_95 (hL 11 0 14 (by decide) rfl) rfl b12 ?_
      have h1 := Option.some.inj h
      obtain ⟨hj0, hr0⟩ := Prod.mk.inj h1
      subst hj0
      subst hr0
      exact hR _ _ rfl dX11_gate_96
    rw [if_neg e11] at h
    by_cases e13 : x2 = (5 : Int32)
    · rw [if_pos e13] at h
      refine u_table (pc := 12) F dX11_gate_12 (off := 85) 97 (by rw [e13]; decide) (by rw [e13]; decide) (by rw [e13]; rfl) (by decide) ?_
      refine u_aload_n (pc := 97) F dX11_gate_97 0 rfl rfl ?_
      refine u_getA (pc := 98) F dX11_gate_98 (hL 11 0 0 (by decide) rfl) ck_11 fl_11_34 rfl (by decide) (by decide) ?_
      refine u_bipush (v := 34) (pc := 101) F dX11_gate_101 (by decide) ?_
      refine u_iload_n (pc := 103) F dX11_gate_103 1 rfl rfl ?_
      refine u_iadd (pc := 104) F dX11_gate_104 ?_
      obtain ⟨b14, h⟩ := d_ab_some h
      refine u_aldI1 (pc := 105) F dX11_gate_105 (hL 11 0 14 (by decide) rfl) rfl b14 ?_
      have h1 := Option.some.inj h
      obtain ⟨hj0, hr0⟩ := Prod.mk.inj h1
      subst hj0
      subst hr0
      exact hR _ _ rfl dX11_gate_106
    rw [if_neg e13] at h
    by_cases e15 : x2 = (6 : Int32)
    · rw [if_pos e15] at h
      refine u_table (pc := 12) F dX11_gate_12 (off := 95) 107 (by rw [e15]; decide) (by rw [e15]; decide) (by rw [e15]; rfl) (by decide) ?_
      refine u_aload_n (pc := 107) F dX11_gate_107 0 rfl rfl ?_
      refine u_iload_n (pc := 108) F dX11_gate_108 1 rfl rfl ?_
      obtain ⟨q16, hq16, h⟩ := d_bd_some h
      refine u_calli (pc := 109) F (As := [.int x1]) (c_X11_usefulAt G hL x1 (upM σ 11 0 mo) mo (upM_same _ _ _ _) q16.1 q16.2 hq16) yv_X11_usefulAt ml_11_245 (hL 11 0 0 (by decide) rfl) rfl (by decide) rfl rfl (Nat.le_of_ble_eq_true rfl) dX11_gate_109 ?_
      refine u_mem (σ2 := (upM σ 11 0 q16.2)) (by first | (rw [upM_upM]; done) | (rw [upM_mid _ _ _ _ (by decide)]; done) | (rw [upM_mid _ _ _ _ (by decide), upM_upM]; done) | (rw [upM_mid _ _ _ _ (by decide), upM_mid _ _ _ _ (by decide)]; done)) ?_
      have h1 := Option.some.inj h
      obtain ⟨hj0, hr0⟩ := Prod.mk.inj h1
      subst hj0
      subst hr0
      exact hR _ _ rfl dX11_gate_112
    rw [if_neg e15] at h
    refine u_tableOut (pc := 12) F dX11_gate_12 113 (by
      have j0 : ¬ x2.toInt = 0 := i32_ne e3
      have j1 : ¬ x2.toInt = 1 := i32_ne e5
      have j2 : ¬ x2.toInt = 2 := i32_ne e7
      have j3 : ¬ x2.toInt = 3 := i32_ne e9
      have j4 : ¬ x2.toInt = 4 := i32_ne e11
      have j5 : ¬ x2.toInt = 5 := i32_ne e13
      have j6 : ¬ x2.toInt = 6 := i32_ne e15
      omega) (by decide) ?_
    refine u_ldc (v := -1000000002) (pc := 113) F dX11_gate_113 kc_11_111 ?_
    have h1 := Option.some.inj h
    obtain ⟨hj0, hr0⟩ := Prod.mk.inj h1
    subst hj0
    subst hr0
    exact hR _ _ rfl dX11_gate_115
  · rw [if_pos c2] at h
    refine u_ldc (v := -1000000001) (pc := 8) F dX11_gate_8 kc_11_237 ?_
    have h1 := Option.some.inj h
    obtain ⟨hj0, hr0⟩ := Prod.mk.inj h1
    subst hj0
    subst hr0
    exact hR _ _ rfl dX11_gate_10
/- RollingCodesModel.last -/
def fX11_last (mo : Grp) (x1 : Int32) (x2 : Int32) : Option (Int32) :=
    d_bd (fX11_isGate mo x1) fun q1 => if q1 = 0 then (some (-1000000001 : Int32)) else (d_bd (fX11_isFob mo x2) fun q3 => if q3 = 0 then (some (-1000000001 : Int32)) else (d_ab (((38 : Int32) + ((5 : Int32) * x1)) + x2) 59 <| some (mo 14 (((38 : Int32) + ((5 : Int32) * x1)) + x2).toNatClampNeg)))
set_option maxHeartbeats 4000000 in
set_option maxRecDepth 100000 in
theorem c_X11_last (G : G0) (hL : Im G) (x1 : Int32) (x2 : Int32) (σ : Mem) (mo : Grp) (e_mo : σ 11 0 = mo) (r : Int32) (h : fX11_last mo x1 x2 = some r) :
    CI G yX11_last cX11_last 3 .int 3 [.ref (adr G (11, 0, 0)), .int x1, .int x2] σ r σ := by
  refine CI.of (by decide +kernel) (Nat.le_of_ble_eq_true rfl) (fun Y hY F hR => ?_)
  unfold fX11_last at h
  have F : Fx Y G cX11_last RX11 3 := F
  refine u_lv (lv' := [(0, .ref (adr G (11, 0, 0))), (1, .int x1), (2, .int x2)]) [0, 1, 2] rfl ?_
  refine u_aload_n (pc := 0) F dX11_last_0 0 rfl rfl ?_
  refine u_iload_n (pc := 1) F dX11_last_1 1 rfl rfl ?_
  obtain ⟨q1, hq1, h⟩ := d_bd_some h
  refine u_calli (pc := 2) F (As := [.int x1]) (c_X11_isGate G hL x1 σ mo ((show σ 11 0 = mo from e_mo)) q1 hq1) yv_X11_isGate ml_11_242 (hL 11 0 0 (by decide) rfl) rfl (by decide) rfl rfl (Nat.le_of_ble_eq_true rfl) dX11_last_2 ?_
  refine u_if_eq (pc := 5) F 32 dX11_last_5 (by decide) (fun c2 => ?_) (fun c2 => ?_)
  · rw [if_pos c2] at h
    refine u_ldc (v := -1000000001) (pc := 32) F dX11_last_32 kc_11_237 ?_
    have h1 := Option.some.inj h
    subst h1
    exact hR _ _ rfl dX11_last_34
  · rw [if_neg c2] at h
    refine u_aload_n (pc := 8) F dX11_last_8 0 rfl rfl ?_
    refine u_iload_n (pc := 9) F dX11_last_9 2 rfl rfl ?_
    obtain ⟨q3, hq3, h⟩ := d_bd_some h
    refine u_calli (pc := 10) F (As := [.int x2]) (c_X11_isFob G hL x2 σ mo ((show σ 11 0 = mo from e_mo)) q3 hq3) yv_X11_isFob ml_11_233 (hL 11 0 0 (by decide) rfl) rfl (by decide) rfl rfl (Nat.le_of_ble_eq_true rfl) dX11_last_10 ?_
    refine u_if_eq (pc := 13) F 32 dX11_last_13 (by decide) (fun c4 => ?_) (fun c4 => ?_)
    · rw [if_pos c4] at h
      refine u_ldc (v := -1000000001) (pc := 32) F dX11_last_32 kc_11_237 ?_
      have h1 := Option.some.inj h
      subst h1
      exact hR _ _ rfl dX11_last_34
    · rw [if_neg c4] at h
      refine u_aload_n (pc := 16) F dX11_last_16 0 rfl rfl ?_
      refine u_getA (pc := 17) F dX11_last_17 (hL 11 0 0 (by decide) rfl) ck_11 fl_11_34 rfl (by decide) (by decide) ?_
      refine u_bipush (v := 38) (pc := 20) F dX11_last_20 (by decide) ?_
      refine u_iconst (v := 5) (pc := 22) F dX11_last_22 (by decide) ?_
      refine u_iload_n (pc := 23) F dX11_last_23 1 rfl rfl ?_
      refine u_imul (pc := 24) F dX11_last_24 ?_
      refine u_iadd (pc := 25) F dX11_last_25 ?_
      refine u_iload_n (pc := 26) F dX11_last_26 2 rfl rfl ?_
      refine u_iadd (pc := 27) F dX11_last_27 ?_
      obtain ⟨b5, h⟩ := d_ab_some h
      refine u_aldI (v := mo 14 (((38 : Int32) + ((5 : Int32) * x1)) + x2).toNatClampNeg) (pc := 28) F dX11_last_28 (hL 11 0 14 (by decide) rfl) rfl b5 (congrFun (congrFun (show σ 11 0 = mo from e_mo) 14) _) ?_
      refine u_goto (pc := 29) F 34 dX11_last_29 (by decide) ?_
      have h1 := Option.some.inj h
      subst h1
      exact hR _ _ rfl dX11_last_34
/- RollingCodesModel.kept -/
def fX11_kept (mo : Grp) (x1 : Int32) : Option (Int32) :=
    d_ab (16 : Int32) 59 <| d_bd (fX11_in (x1.toInt64) (0 : Int64) (((mo 14 (16 : Int32).toNatClampNeg) - (1 : Int32)).toInt64)) fun q2 => if q2 = 0 then (some (-1 : Int32)) else (d_ab ((17 : Int32) + x1) 59 <| some (mo 14 ((17 : Int32) + x1).toNatClampNeg))
set_option maxHeartbeats 4000000 in
set_option maxRecDepth 100000 in
theorem c_X11_kept (G : G0) (hL : Im G) (x1 : Int32) (σ : Mem) (mo : Grp) (e_mo : σ 11 0 = mo) (r : Int32) (h : fX11_kept mo x1 = some r) :
    CI G yX11_kept cX11_kept 2 .int 2 [.ref (adr G (11, 0, 0)), .int x1] σ r σ := by
  refine CI.of (by decide +kernel) (Nat.le_of_ble_eq_true rfl) (fun Y hY F hR => ?_)
  unfold fX11_kept at h
  have F : Fx Y G cX11_kept RX11 2 := F
  refine u_lv (lv' := [(0, .ref (adr G (11, 0, 0))), (1, .int x1)]) [0, 1] rfl ?_
  refine u_iload_n (pc := 0) F dX11_kept_0 1 rfl rfl ?_
  refine u_i2l (pc := 1) F dX11_kept_1 ?_
  refine u_lconst (v := 0) (pc := 2) F dX11_kept_2 (by decide) ?_
  refine u_aload_n (pc := 3) F dX11_kept_3 0 rfl rfl ?_
  refine u_getA (pc := 4) F dX11_kept_4 (hL 11 0 0 (by decide) rfl) ck_11 fl_11_34 rfl (by decide) (by decide) ?_
  refine u_bipush (v := 16) (pc := 7) F dX11_kept_7 (by decide) ?_
  obtain ⟨b1, h⟩ := d_ab_some h
  refine u_aldI (v := mo 14 (16 : Int32).toNatClampNeg) (pc := 9) F dX11_kept_9 (hL 11 0 14 (by decide) rfl) rfl b1 (congrFun (congrFun (show σ 11 0 = mo from e_mo) 14) _) ?_
  refine u_iconst (v := 1) (pc := 10) F dX11_kept_10 (by decide) ?_
  refine u_isub (pc := 11) F dX11_kept_11 ?_
  refine u_i2l (pc := 12) F dX11_kept_12 ?_
  obtain ⟨q2, hq2, h⟩ := d_bd_some h
  refine u_callSi (pc := 13) F (As := [.long (x1.toInt64), .long (0 : Int64), .long (((mo 14 (16 : Int32).toNatClampNeg) - (1 : Int32)).toInt64)]) (c_X11_in G hL (x1.toInt64) (0 : Int64) (((mo 14 (16 : Int32).toNatClampNeg) - (1 : Int32)).toInt64) σ q2 hq2) ys_X11_in ml_11_105 (by decide) rfl rfl (Nat.le_of_ble_eq_true rfl) dX11_kept_13 ?_
  refine u_if_eq (pc := 16) F 31 dX11_kept_16 (by decide) (fun c3 => ?_) (fun c3 => ?_)
  · rw [if_pos c3] at h
    refine u_iconst (v := -1) (pc := 31) F dX11_kept_31 (by decide) ?_
    have h1 := Option.some.inj h
    subst h1
    exact hR _ _ rfl dX11_kept_32
  · rw [if_neg c3] at h
    refine u_aload_n (pc := 19) F dX11_kept_19 0 rfl rfl ?_
    refine u_getA (pc := 20) F dX11_kept_20 (hL 11 0 0 (by decide) rfl) ck_11 fl_11_34 rfl (by decide) (by decide) ?_
    refine u_bipush (v := 17) (pc := 23) F dX11_kept_23 (by decide) ?_
    refine u_iload_n (pc := 25) F dX11_kept_25 1 rfl rfl ?_
    refine u_iadd (pc := 26) F dX11_kept_26 ?_
    obtain ⟨b4, h⟩ := d_ab_some h
    refine u_aldI (v := mo 14 ((17 : Int32) + x1).toNatClampNeg) (pc := 27) F dX11_kept_27 (hL 11 0 14 (by decide) rfl) rfl b4 (congrFun (congrFun (show σ 11 0 = mo from e_mo) 14) _) ?_
    refine u_goto (pc := 28) F 32 dX11_kept_28 (by decide) ?_
    have h1 := Option.some.inj h
    subst h1
    exact hR _ _ rfl dX11_kept_32
/- RollingCodesModel.remember -/
def fX11_remember_52  : Nat → Grp → Int32 → Option (Grp)
  | 0, _, _ => none
  | fu + 1, mo, x1 =>
    if x1 < (59 : Int32) then (d_ab x1 59 <| d_ab (((59 : Int32) * (mo 0 32)) + x1) 944 <| d_lt (wr mo 34 (((59 : Int32) * (mo 0 32)) + x1).toNatClampNeg (mo 14 x1.toNatClampNeg)) fun g6 => d_lt (x1 + (1 : Int32)) fun v7 => fX11_remember_52 fu g6 v7) else (d_lt (wr mo 0 32 ((mo 0 32) + (1 : Int32))) fun g3 => some g3)
def fX11_remember_50  (mo : Grp)  : Option (Grp) :=
    fX11_remember_52 1000 mo (0 : Int32)
def fX11_remember_12  : Nat → Grp → Int32 → Option (Grp)
  | 0, _, _ => none
  | fu + 1, mo, x1 =>
    if x1 < (944 : Int32) then (d_ab x1 944 <| d_ab (x1 - (59 : Int32)) 944 <| d_lt (wr mo 34 (x1 - (59 : Int32)).toNatClampNeg (mo 34 x1.toNatClampNeg)) fun g12 => d_lt (x1 + (1 : Int32)) fun v13 => fX11_remember_12 fu g12 v13) else (d_lt (wr mo 0 32 ((mo 0 32) - (1 : Int32))) fun g9 => fX11_remember_50 g9)
def fX11_remember (mo : Grp) : Option (Grp) :=
    if (mo 0 32) = (16 : Int32) then (fX11_remember_12 1000 mo (59 : Int32)) else (fX11_remember_50 mo)
set_option maxHeartbeats 4000000 in
set_option maxRecDepth 100000 in
theorem wX11_remember_52 (Y : Dy) (G : G0) (hL : Im G) (σ : Mem) (F : Fx Y G cX11_remember RX11 1) (hY : Y.2.2.2.2.2.2.2.2.2.2.2.1 = 2) (mo' : Grp) (hR : ∀ (pc : Nat) (lv : List (Nat × Value)), decode cX11_remember pc = .ok (.return_, 1) → U Y G (upM σ 11 0 (mo')) pc lv []) :
    ∀ (fu : Nat) (mo : Grp) (x1 : Int32), fX11_remember_52 fu mo x1 = some mo' → U Y G (upM σ 11 0 mo) 52 [(0, .ref (adr G (11, 0, 0))), (1, .int x1)] [] := by
  intro fu
  induction fu with
  | zero =>
    intro mo x1 h
    rw [fX11_remember_52] at h
    cases h
  | succ fu ih =>
    intro mo x1 h
    rw [fX11_remember_52] at h
    refine u_iload_n (pc := 52) F dX11_remember_52 1 rfl rfl ?_
    refine u_bipush (v := 59) (pc := 53) F dX11_remember_53 (by decide) ?_
    refine u_icmp_ge (pc := 55) F 84 dX11_remember_55 (by decide) (fun c2 => ?_) (fun c2 => ?_)
    · rw [if_neg c2] at h
      refine u_aload_n (pc := 84) F dX11_remember_84 0 rfl rfl ?_
      refine u_dup (pc := 85) F dX11_remember_85 rfl ?_
      refine u_get1 (pc := 86) F dX11_remember_86 (hL 11 0 0 (by decide) rfl) ck_11 fl_11_188 rfl (by decide) ?_
      refine u_iconst (v := 1) (pc := 89) F dX11_remember_89 (by decide) ?_
      refine u_iadd (pc := 90) F dX11_remember_90 ?_
      refine u_put1 (pc := 91) F dX11_remember_91 (hL 11 0 0 (by decide) rfl) ck_11 fl_11_188 rfl (by decide) rfl (ty0 := .int) (by decide +kernel) rfl rfl ?_
      obtain ⟨g3, hg3, h⟩ := d_lt_some h
      refine u_mem (σ2 := (upM σ 11 0 g3)) (by rw [hg3]) ?_
      have h1 := Option.some.inj h
      subst h1
      exact hR _ _ dX11_remember_94
    · rw [if_pos c2] at h
      refine u_aload_n (pc := 58) F dX11_remember_58 0 rfl rfl ?_
      refine u_getA (pc := 59) F dX11_remember_59 (hL 11 0 0 (by decide) rfl) ck_11 fl_11_71 rfl (by decide) (by decide) ?_
      refine u_bipush (v := 59) (pc := 62) F dX11_remember_62 (by decide) ?_
      refine u_aload_n (pc := 64) F dX11_remember_64 0 rfl rfl ?_
      refine u_get1 (pc := 65) F dX11_remember_65 (hL 11 0 0 (by decide) rfl) ck_11 fl_11_188 rfl (by decide) ?_
      refine u_imul (pc := 68) F dX11_remember_68 ?_
      refine u_iload_n (pc := 69) F dX11_remember_69 1 rfl rfl ?_
      refine u_iadd (pc := 70) F dX11_remember_70 ?_
      refine u_aload_n (pc := 71) F dX11_remember_71 0 rfl rfl ?_
      refine u_getA (pc := 72) F dX11_remember_72 (hL 11 0 0 (by decide) rfl) ck_11 fl_11_34 rfl (by decide) (by decide) ?_
      refine u_iload_n (pc := 75) F dX11_remember_75 1 rfl rfl ?_
      obtain ⟨b4, h⟩ := d_ab_some h
      refine u_aldI1 (pc := 76) F dX11_remember_76 (hL 11 0 14 (by decide) rfl) rfl b4 ?_
      obtain ⟨b5, h⟩ := d_ab_some h
      refine u_astI1 (pc := 77) F dX11_remember_77 (hL 11 0 34 (by decide) rfl) rfl b5 ?_
      obtain ⟨g6, hg6, h⟩ := d_lt_some h
      refine u_mem (σ2 := (upM σ 11 0 g6)) (by rw [hg6]) ?_
      obtain ⟨v7, hv7, h⟩ := d_lt_some h
      refine u_iinc (lv' := [(1, .int v7), (0, .ref (adr G (11, 0, 0)))]) (pc := 78) F dX11_remember_78 1 rfl hv7.symm hY (by decide) rfl ?_
      refine u_goto (pc := 81) F 52 dX11_remember_81 (by decide) ?_
      refine u_lv (lv' := [(0, .ref (adr G (11, 0, 0))), (1, .int v7)]) [1, 0] rfl ?_
      exact ih g6 v7 h
set_option maxHeartbeats 4000000 in
set_option maxRecDepth 100000 in
theorem wX11_remember_50 (Y : Dy) (G : G0) (hL : Im G) (σ : Mem) (F : Fx Y G cX11_remember RX11 1) (hY : Y.2.2.2.2.2.2.2.2.2.2.2.1 = 2) (mo' : Grp) (hR : ∀ (pc : Nat) (lv : List (Nat × Value)), decode cX11_remember pc = .ok (.return_, 1) → U Y G (upM σ 11 0 (mo')) pc lv []) :
    ∀ (mo : Grp), fX11_remember_50 mo = some mo' → U Y G (upM σ 11 0 mo) 50 [(0, .ref (adr G (11, 0, 0)))] [] := by
  intro mo h
  unfold fX11_remember_50 at h
  refine u_iconst (v := 0) (pc := 50) F dX11_remember_50 (by decide) ?_
  refine u_istore_n (lv' := [(1, .int (0 : Int32)), (0, .ref (adr G (11, 0, 0)))]) (pc := 51) F dX11_remember_51 rfl hY (by decide) rfl ?_
  refine u_lv (lv' := [(0, .ref (adr G (11, 0, 0))), (1, .int (0 : Int32))]) [1, 0] rfl ?_
  exact wX11_remember_52 Y G hL σ F hY mo' hR 1000 mo (0 : Int32) h
set_option maxHeartbeats 4000000 in
set_option maxRecDepth 100000 in
theorem wX11_remember_12 (Y : Dy) (G : G0) (hL : Im G) (σ : Mem) (F : Fx Y G cX11_remember RX11 1) (hY : Y.2.2.2.2.2.2.2.2.2.2.2.1 = 2) (mo' : Grp) (hR : ∀ (pc : Nat) (lv : List (Nat × Value)), decode cX11_remember pc = .ok (.return_, 1) → U Y G (upM σ 11 0 (mo')) pc lv []) :
    ∀ (fu : Nat) (mo : Grp) (x1 : Int32), fX11_remember_12 fu mo x1 = some mo' → U Y G (upM σ 11 0 mo) 12 [(0, .ref (adr G (11, 0, 0))), (1, .int x1)] [] := by
  intro fu
  induction fu with
  | zero =>
    intro mo x1 h
    rw [fX11_remember_12] at h
    cases h
  | succ fu ih =>
    intro mo x1 h
    rw [fX11_remember_12] at h
    refine u_iload_n (pc := 12) F dX11_remember_12 1 rfl rfl ?_
    refine u_sipush (v := 944) (pc := 13) F dX11_remember_13 (by decide) ?_
    refine u_icmp_ge (pc := 16) F 40 dX11_remember_16 (by decide) (fun c8 => ?_) (fun c8 => ?_)
    · rw [if_neg c8] at h
      refine u_aload_n (pc := 40) F dX11_remember_40 0 rfl rfl ?_
      refine u_dup (pc := 41) F dX11_remember_41 rfl ?_
      refine u_get1 (pc := 42) F dX11_remember_42 (hL 11 0 0 (by decide) rfl) ck_11 fl_11_188 rfl (by decide) ?_
      refine u_iconst (v := 1) (pc := 45) F dX11_remember_45 (by decide) ?_
      refine u_isub (pc := 46) F dX11_remember_46 ?_
      refine u_put1 (pc := 47) F dX11_remember_47 (hL 11 0 0 (by decide) rfl) ck_11 fl_11_188 rfl (by decide) rfl (ty0 := .int) (by decide +kernel) rfl rfl ?_
      obtain ⟨g9, hg9, h⟩ := d_lt_some h
      refine u_mem (σ2 := (upM σ 11 0 g9)) (by rw [hg9]) ?_
      refine u_lv (lv' := [(0, .ref (adr G (11, 0, 0)))]) [0] rfl ?_
      exact wX11_remember_50 Y G hL σ F hY mo' hR g9 h
    · rw [if_pos c8] at h
      refine u_aload_n (pc := 19) F dX11_remember_19 0 rfl rfl ?_
      refine u_getA (pc := 20) F dX11_remember_20 (hL 11 0 0 (by decide) rfl) ck_11 fl_11_71 rfl (by decide) (by decide) ?_
      refine u_iload_n (pc := 23) F dX11_remember_23 1 rfl rfl ?_
      refine u_bipush (v := 59) (pc := 24) F dX11_remember_24 (by decide) ?_
      refine u_isub (pc := 26) F dX11_remember_26 ?_
      refine u_aload_n (pc := 27) F dX11_remember_27 0 rfl rfl ?_
      refine u_getA (pc := 28) F dX11_remember_28 (hL 11 0 0 (by decide) rfl) ck_11 fl_11_71 rfl (by decide) (by decide) ?_
      refine u_iload_n (pc := 31) F dX11_remember_31 1 rfl rfl ?_
      obtain ⟨b10, h⟩ := d_ab_some h
      refine u_aldI1 (pc := 32) F dX11_remember_32 (hL 11 0 34 (by decide) rfl) rfl b10 ?_
      obtain ⟨b11, h⟩ := d_ab_some h
      refine u_astI1 (pc := 33) F dX11_remember_33 (hL 11 0 34 (by decide) rfl) rfl b11 ?_
      obtain ⟨g12, hg12, h⟩ := d_lt_some h
      refine u_mem (σ2 := (upM σ 11 0 g12)) (by rw [hg12]) ?_
      obtain ⟨v13, hv13, h⟩ := d_lt_some h
      refine u_iinc (lv' := [(1, .int v13), (0, .ref (adr G (11, 0, 0)))]) (pc := 34) F dX11_remember_34 1 rfl hv13.symm hY (by decide) rfl ?_
      refine u_goto (pc := 37) F 12 dX11_remember_37 (by decide) ?_
      refine u_lv (lv' := [(0, .ref (adr G (11, 0, 0))), (1, .int v13)]) [1, 0] rfl ?_
      exact ih g12 v13 h
set_option maxHeartbeats 4000000 in
set_option maxRecDepth 100000 in
theorem c_X11_remember (G : G0) (hL : Im G) (σ : Mem) (mo : Grp) (e_mo : σ 11 0 = mo) (mo' : Grp) (h : fX11_remember mo = some mo') :
    CV G yX11_remember cX11_remember 2 1 [.ref (adr G (11, 0, 0))] σ (upM σ 11 0 (mo')) := by
  refine CV.of (by decide +kernel) (Nat.le_of_ble_eq_true rfl) (fun Y hY F hR => ?_)
  unfold fX11_remember at h
  have F : Fx Y G cX11_remember RX11 1 := F
  refine u_mem (σ2 := (upM σ 11 0 mo)) (by rw [← e_mo]; simp only [upM_self]) ?_
  refine u_lv (lv' := [(0, .ref (adr G (11, 0, 0)))]) [0] rfl ?_
  refine u_aload_n (pc := 0) F dX11_remember_0 0 rfl rfl ?_
  refine u_get1 (pc := 1) F dX11_remember_1 (hL 11 0 0 (by decide) rfl) ck_11 fl_11_188 rfl (by decide) ?_
  refine u_bipush (v := 16) (pc := 4) F dX11_remember_4 (by decide) ?_
  refine u_icmp_ne (pc := 6) F 50 dX11_remember_6 (by decide) (fun c1 => ?_) (fun c1 => ?_)
  · rw [if_neg c1] at h
    exact wX11_remember_50 Y G hL σ F hY mo' hR mo h
  · rw [if_pos c1] at h
    refine u_bipush (v := 59) (pc := 9) F dX11_remember_9 (by decide) ?_
    refine u_istore_n (lv' := [(1, .int (59 : Int32)), (0, .ref (adr G (11, 0, 0)))]) (pc := 11) F dX11_remember_11 rfl hY (by decide) rfl ?_
    refine u_lv (lv' := [(0, .ref (adr G (11, 0, 0))), (1, .int (59 : Int32))]) [1, 0] rfl ?_
    exact wX11_remember_12 Y G hL σ F hY mo' hR 1000 mo (59 : Int32) h
/- RollingCodesModel.press -/
def fX11_press (mo : Grp) (x1 : Int32) : Option (Int32 × Grp) :=
    d_bd (fX11_isFob mo x1) fun q1 => if q1 = 0 then (some ((-1000000001 : Int32), mo)) else (d_ab ((10 : Int32) + x1) 59 <| if (mo 14 ((10 : Int32) + x1).toNatClampNeg) = 0 then (some ((-1000000003 : Int32), mo)) else (d_bd (fX11_remember mo) fun q5 => d_bd (fX11_pressNow q5 x1) fun q6 => some (q6.1, q6.2)))
set_option maxHeartbeats 4000000 in
set_option maxRecDepth 100000 in
theorem c_X11_press (G : G0) (hL : Im G) (x1 : Int32) (σ : Mem) (mo : Grp) (e_mo : σ 11 0 = mo) (r : Int32) (mo' : Grp) (h : fX11_press mo x1 = some (r, mo')) :
    CI G yX11_press cX11_press 2 .int 7 [.ref (adr G (11, 0, 0)), .int x1] σ r (upM σ 11 0 (mo')) := by
  refine CI.of (by decide +kernel) (Nat.le_of_ble_eq_true rfl) (fun Y hY F hR => ?_)
  unfold fX11_press at h
  have F : Fx Y G cX11_press RX11 7 := F
  refine u_mem (σ2 := (upM σ 11 0 mo)) (by rw [← e_mo]; simp only [upM_self]) ?_
  refine u_lv (lv' := [(0, .ref (adr G (11, 0, 0))), (1, .int x1)]) [0, 1] rfl ?_
  refine u_aload_n (pc := 0) F dX11_press_0 0 rfl rfl ?_
  refine u_iload_n (pc := 1) F dX11_press_1 1 rfl rfl ?_
  obtain ⟨q1, hq1, h⟩ := d_bd_some h
  refine u_calli (pc := 2) F (As := [.int x1]) (c_X11_isFob G hL x1 (upM σ 11 0 mo) mo (upM_same _ _ _ _) q1 hq1) yv_X11_isFob ml_11_233 (hL 11 0 0 (by decide) rfl) rfl (by decide) rfl rfl (Nat.le_of_ble_eq_true rfl) dX11_press_2 ?_
  refine u_if_ne (pc := 5) F 11 dX11_press_5 (by decide) (fun c2 => ?_) (fun c2 => ?_)
  · rw [if_neg c2] at h
    refine u_aload_n (pc := 11) F dX11_press_11 0 rfl rfl ?_
    refine u_getA (pc := 12) F dX11_press_12 (hL 11 0 0 (by decide) rfl) ck_11 fl_11_34 rfl (by decide) (by decide) ?_
    refine u_bipush (v := 10) (pc := 15) F dX11_press_15 (by decide) ?_
    refine u_iload_n (pc := 17) F dX11_press_17 1 rfl rfl ?_
    refine u_iadd (pc := 18) F dX11_press_18 ?_
    obtain ⟨b3, h⟩ := d_ab_some h
    refine u_aldI1 (pc := 19) F dX11_press_19 (hL 11 0 14 (by decide) rfl) rfl b3 ?_
    refine u_if_ne (pc := 20) F 26 dX11_press_20 (by decide) (fun c4 => ?_) (fun c4 => ?_)
    · rw [if_neg c4] at h
      refine u_aload_n (pc := 26) F dX11_press_26 0 rfl rfl ?_
      obtain ⟨q5, hq5, h⟩ := d_bd_some h
      refine u_callv (pc := 27) F (As := []) (c_X11_remember G hL (upM σ 11 0 mo) mo (upM_same _ _ _ _) q5 hq5) yv_X11_remember ml_11_249 (hL 11 0 0 (by decide) rfl) rfl (by decide) rfl rfl (Nat.le_of_ble_eq_true rfl) dX11_press_27 ?_
      refine u_mem (σ2 := (upM σ 11 0 q5)) (by first | (rw [upM_upM]; done) | (rw [upM_mid _ _ _ _ (by decide)]; done) | (rw [upM_mid _ _ _ _ (by decide), upM_upM]; done) | (rw [upM_mid _ _ _ _ (by decide), upM_mid _ _ _ _ (by decide)]; done)) ?_
      refine u_aload_n (pc := 30) F dX11_press_30 0 rfl rfl ?_
      refine u_iload_n (pc := 31) F dX11_press_31 1 rfl rfl ?_
      obtain ⟨q6, hq6, h⟩ := d_bd_some h
      refine u_calli (pc := 32) F (As := [.int x1]) (c_X11_pressNow G hL x1 (upM σ 11 0 q5) q5 (upM_same _ _ _ _) q6.1 q6.2 hq6) yv_X11_pressNow ml_11_252 (hL 11 0 0 (by decide) rfl) rfl (by decide) rfl rfl (Nat.le_of_ble_eq_true rfl) dX11_press_32 ?_
      refine u_mem (σ2 := (upM σ 11 0 q6.2)) (by first | (rw [upM_upM]; done) | (rw [upM_mid _ _ _ _ (by decide)]; done) | (rw [upM_mid _ _ _ _ (by decide), upM_upM]; done) | (rw [upM_mid _ _ _ _ (by decide), upM_mid _ _ _ _ (by decide)]; done)) ?_
      have h1 := Option.some.inj h
      obtain ⟨hj0, hr0⟩ := Prod.mk.inj h1
      subst hj0
      subst hr0
      exact hR _ _ rfl dX11_press_35
    · rw [if_pos c4] at h
      refine u_ldc (v := -1000000003) (pc := 23) F dX11_press_23 kc_11_248 ?_
      have h1 := Option.some.inj h
      obtain ⟨hj0, hr0⟩ := Prod.mk.inj h1
      subst hj0
      subst hr0
      exact hR _ _ rfl dX11_press_25
  · rw [if_pos c2] at h
    refine u_ldc (v := -1000000001) (pc := 8) F dX11_press_8 kc_11_237 ?_
    have h1 := Option.some.inj h
    obtain ⟨hj0, hr0⟩ := Prod.mk.inj h1
    subst hj0
    subst hr0
    exact hR _ _ rfl dX11_press_10
/- RollingCodesModel.step -/
def fX11_step (mo : Grp) (x1 : Int32) (x2 : Int32) : Option (Int32 × Grp) :=
    d_bd (fX11_isFob mo x1) fun q1 => if q1 = 0 then (some ((-1000000001 : Int32), mo)) else (d_bd (fX11_in (x2.toInt64) (0 : Int64) (9 : Int64)) fun q3 => if q3 = 0 then (some ((-1000000002 : Int32), mo)) else (d_ab x1 59 <| if (mo 14 x1.toNatClampNeg) = x2 then (some ((-1000000003 : Int32), mo)) else (d_bd (fX11_remember mo) fun q7 => d_ab x1 59 <| d_lt (q7 14 x1.toNatClampNeg) fun v9 => d_ab x1 59 <| d_lt (wr q7 14 x1.toNatClampNeg x2) fun g11 => some (v9, g11))))
set_option maxHeartbeats 4000000 in
set_option maxRecDepth 100000 in
theorem c_X11_step (G : G0) (hL : Im G) (x1 : Int32) (x2 : Int32) (σ : Mem) (mo : Grp) (e_mo : σ 11 0 = mo) (r : Int32) (mo' : Grp) (h : fX11_step mo x1 x2 = some (r, mo')) :
    CI G yX11_step cX11_step 4 .int 3 [.ref (adr G (11, 0, 0)), .int x1, .int x2] σ r (upM σ 11 0 (mo')) := by
  refine CI.of (by decide +kernel) (Nat.le_of_ble_eq_true rfl) (fun Y hY F hR => ?_)
  unfold fX11_step at h
  have F : Fx Y G cX11_step RX11 3 := F
  refine u_mem (σ2 := (upM σ 11 0 mo)) (by rw [← e_mo]; simp only [upM_self]) ?_
  refine u_lv (lv' := [(0, .ref (adr G (11, 0, 0))), (1, .int x1), (2, .int x2)]) [0, 1, 2] rfl ?_
  refine u_aload_n (pc := 0) F dX11_step_0 0 rfl rfl ?_
  refine u_iload_n (pc := 1) F dX11_step_1 1 rfl rfl ?_
  obtain ⟨q1, hq1, h⟩ := d_bd_some h
  refine u_calli (pc := 2) F (As := [.int x1]) (c_X11_isFob G hL x1 (upM σ 11 0 mo) mo (upM_same _ _ _ _) q1 hq1) yv_X11_isFob ml_11_233 (hL 11 0 0 (by decide) rfl) rfl (by decide) rfl rfl (Nat.le_of_ble_eq_true rfl) dX11_step_2 ?_
  refine u_if_ne (pc := 5) F 11 dX11_step_5 (by decide) (fun c2 => ?_) (fun c2 => ?_)
  · rw [if_neg c2] at h
    refine u_iload_n (pc := 11) F dX11_step_11 2 rfl rfl ?_
    refine u_i2l (pc := 12) F dX11_step_12 ?_
    refine u_lconst (v := 0) (pc := 13) F dX11_step_13 (by decide) ?_
    refine u_ldc2 (v := 9) (pc := 14) F dX11_step_14 kc_11_255 ?_
    obtain ⟨q3, hq3, h⟩ := d_bd_some h
    refine u_callSi (pc := 17) F (As := [.long (x2.toInt64), .long (0 : Int64), .long (9 : Int64)]) (c_X11_in G hL (x2.toInt64) (0 : Int64) (9 : Int64) (upM σ 11 0 mo) q3 hq3) ys_X11_in ml_11_105 (by decide) rfl rfl (Nat.le_of_ble_eq_true rfl) dX11_step_17 ?_
    refine u_if_ne (pc := 20) F 26 dX11_step_20 (by decide) (fun c4 => ?_) (fun c4 => ?_)
    · rw [if_neg c4] at h
      refine u_aload_n (pc := 26) F dX11_step_26 0 rfl rfl ?_
      refine u_getA (pc := 27) F dX11_step_27 (hL 11 0 0 (by decide) rfl) ck_11 fl_11_34 rfl (by decide) (by decide) ?_
      refine u_iload_n (pc := 30) F dX11_step_30 1 rfl rfl ?_
      obtain ⟨b5, h⟩ := d_ab_some h
      refine u_aldI1 (pc := 31) F dX11_step_31 (hL 11 0 14 (by decide) rfl) rfl b5 ?_
      refine u_iload_n (pc := 32) F dX11_step_32 2 rfl rfl ?_
      refine u_icmp_ne (pc := 33) F 39 dX11_step_33 (by decide) (fun c6 => ?_) (fun c6 => ?_)
      · rw [if_neg c6] at h
        refine u_aload_n (pc := 39) F dX11_step_39 0 rfl rfl ?_
        obtain ⟨q7, hq7, h⟩ := d_bd_some h
        refine u_callv (pc := 40) F (As := []) (c_X11_remember G hL (upM σ 11 0 mo) mo (upM_same _ _ _ _) q7 hq7) yv_X11_remember ml_11_249 (hL 11 0 0 (by decide) rfl) rfl (by decide) rfl rfl (Nat.le_of_ble_eq_true rfl) dX11_step_40 ?_
        refine u_mem (σ2 := (upM σ 11 0 q7)) (by first | (rw [upM_upM]; done) | (rw [upM_mid _ _ _ _ (by decide)]; done) | (rw [upM_mid _ _ _ _ (by decide), upM_upM]; done) | (rw [upM_mid _ _ _ _ (by decide), upM_mid _ _ _ _ (by decide)]; done)) ?_
        refine u_aload_n (pc := 43) F dX11_step_43 0 rfl rfl ?_
        refine u_getA (pc := 44) F dX11_step_44 (hL 11 0 0 (by decide) rfl) ck_11 fl_11_34 rfl (by decide) (by decide) ?_
        refine u_iload_n (pc := 47) F dX11_step_47 1 rfl rfl ?_
        obtain ⟨b8, h⟩ := d_ab_some h
        refine u_aldI1 (pc := 48) F dX11_step_48 (hL 11 0 14 (by decide) rfl) rfl b8 ?_
        obtain ⟨v9, hv9, h⟩ := d_lt_some h
        refine u_topi hv9 ?_
        refine u_istore_n (lv' := [(3, .int v9), (0, .ref (adr G (11, 0, 0))), (1, .int x1), (2, .int x2)]) (pc := 49) F dX11_step_49 rfl hY (by decide) rfl ?_
        refine u_aload_n (pc := 50) F dX11_step_50 1 rfl rfl ?_
        refine u_getA (pc := 51) F dX11_step_51 (hL 11 0 0 (by decide) rfl) ck_11 fl_11_34 rfl (by decide) (by decide) ?_
        refine u_iload_n (pc := 54) F dX11_step_54 2 rfl rfl ?_
        refine u_iload_n (pc := 55) F dX11_step_55 3 rfl rfl ?_
        obtain ⟨b10, h⟩ := d_ab_some h
        refine u_astI1 (pc := 56) F dX11_step_56 (hL 11 0 14 (by decide) rfl) rfl b10 ?_
        obtain ⟨g11, hg11, h⟩ := d_lt_some h
        refine u_mem (σ2 := (upM σ 11 0 g11)) (by rw [hg11]) ?_
        refine u_iload_n (pc := 57) F dX11_step_57 0 rfl rfl ?_
        have h1 := Option.some.inj h
        obtain ⟨hj0, hr0⟩ := Prod.mk.inj h1
        subst hj0
        subst hr0
        exact hR _ _ rfl dX11_step_58
      · rw [if_pos c6] at h
        refine u_ldc (v := -1000000003) (pc := 36) F dX11_step_36 kc_11_248 ?_
        have h1 := Option.some.inj h
        obtain ⟨hj0, hr0⟩ := Prod.mk.inj h1
        subst hj0
        subst hr0
        exact hR _ _ rfl dX11_step_38
    · rw [if_pos c4] at h
      refine u_ldc (v := -1000000002) (pc := 23) F dX11_step_23 kc_11_111 ?_
      have h1 := Option.some.inj h
      obtain ⟨hj0, hr0⟩ := Prod.mk.inj h1
      subst hj0
      subst hr0
      exact hR _ _ rfl dX11_step_25
  · rw [if_pos c2] at h
    refine u_ldc (v := -1000000001) (pc := 8) F dX11_step_8 kc_11_237 ?_
    have h1 := Option.some.inj h
    obtain ⟨hj0, hr0⟩ := Prod.mk.inj h1
    subst hj0
    subst hr0
    exact hR _ _ rfl dX11_step_10
/- RollingCodesModel.earTo -/
def fX11_earTo (mo : Grp) (x1 : Int32) : Option (Int32 × Grp) :=
    d_bd (fX11_in (x1.toInt64) (0 : Int64) (9 : Int64)) fun q1 => if q1 = 0 then (some ((-1000000002 : Int32), mo)) else (if (mo 0 0) = 0 then (some ((-1000000003 : Int32), mo)) else (d_ab (15 : Int32) 59 <| if (mo 14 (15 : Int32).toNatClampNeg) = x1 then (some ((-1000000003 : Int32), mo)) else (d_bd (fX11_remember mo) fun q6 => d_ab (15 : Int32) 59 <| d_lt (q6 14 (15 : Int32).toNatClampNeg) fun v8 => d_ab (15 : Int32) 59 <| d_lt (wr q6 14 (15 : Int32).toNatClampNeg x1) fun g10 => some (v8, g10))))
set_option maxHeartbeats 4000000 in
set_option maxRecDepth 100000 in
theorem c_X11_earTo (G : G0) (hL : Im G) (x1 : Int32) (σ : Mem) (mo : Grp) (e_mo : σ 11 0 = mo) (r : Int32) (mo' : Grp) (h : fX11_earTo mo x1 = some (r, mo')) :
    CI G yX11_earTo cX11_earTo 3 .int 2 [.ref (adr G (11, 0, 0)), .int x1] σ r (upM σ 11 0 (mo')) := by
  refine CI.of (by decide +kernel) (Nat.le_of_ble_eq_true rfl) (fun Y hY F hR => ?_)
  unfold fX11_earTo at h
  have F : Fx Y G cX11_earTo RX11 2 := F
  refine u_mem (σ2 := (upM σ 11 0 mo)) (by rw [← e_mo]; simp only [upM_self]) ?_
  refine u_lv (lv' := [(0, .ref (adr G (11, 0, 0))), (1, .int x1)]) [0, 1] rfl ?_
  refine u_iload_n (pc := 0) F dX11_earTo_0 1 rfl rfl ?_
  refine u_i2l (pc := 1) F dX11_earTo_1 ?_
  refine u_lconst (v := 0) (pc := 2) F dX11_earTo_2 (by decide) ?_
  refine u_ldc2 (v := 9) (pc := 3) F dX11_earTo_3 kc_11_255 ?_
  obtain ⟨q1, hq1, h⟩ := d_bd_some h
  refine u_callSi (pc := 6) F (As := [.long (x1.toInt64), .long (0 : Int64), .long (9 : Int64)]) (c_X11_in G hL (x1.toInt64) (0 : Int64) (9 : Int64) (upM σ 11 0 mo) q1 hq1) ys_X11_in ml_11_105 (by decide) rfl rfl (Nat.le_of_ble_eq_true rfl) dX11_earTo_6 ?_
  refine u_if_ne (pc := 9) F 15 dX11_earTo_9 (by decide) (fun c2 => ?_) (fun c2 => ?_)
  · rw [if_neg c2] at h
    refine u_aload_n (pc := 15) F dX11_earTo_15 0 rfl rfl ?_
    refine u_get1 (pc := 16) F dX11_earTo_16 (hL 11 0 0 (by decide) rfl) ck_11 fl_11_163 rfl (by decide) ?_
    refine u_if_eq (pc := 19) F 33 dX11_earTo_19 (by decide) (fun c3 => ?_) (fun c3 => ?_)
    · rw [if_pos c3] at h
      refine u_ldc (v := -1000000003) (pc := 33) F dX11_earTo_33 kc_11_248 ?_
      have h1 := Option.some.inj h
      obtain ⟨hj0, hr0⟩ := Prod.mk.inj h1
      subst hj0
      subst hr0
      exact hR _ _ rfl dX11_earTo_35
    · rw [if_neg c3] at h
      refine u_aload_n (pc := 22) F dX11_earTo_22 0 rfl rfl ?_
      refine u_getA (pc := 23) F dX11_earTo_23 (hL 11 0 0 (by decide) rfl) ck_11 fl_11_34 rfl (by decide) (by decide) ?_
      refine u_bipush (v := 15) (pc := 26) F dX11_earTo_26 (by decide) ?_
      obtain ⟨b4, h⟩ := d_ab_some h
      refine u_aldI1 (pc := 28) F dX11_earTo_28 (hL 11 0 14 (by decide) rfl) rfl b4 ?_
      refine u_iload_n (pc := 29) F dX11_earTo_29 1 rfl rfl ?_
      refine u_icmp_ne (pc := 30) F 36 dX11_earTo_30 (by decide) (fun c5 => ?_) (fun c5 => ?_)
      · rw [if_neg c5] at h
        refine u_aload_n (pc := 36) F dX11_earTo_36 0 rfl rfl ?_
        obtain ⟨q6, hq6, h⟩ := d_bd_some h
        refine u_callv (pc := 37) F (As := []) (c_X11_remember G hL (upM σ 11 0 mo) mo (upM_same _ _ _ _) q6 hq6) yv_X11_remember ml_11_249 (hL 11 0 0 (by decide) rfl) rfl (by decide) rfl rfl (Nat.le_of_ble_eq_true rfl) dX11_earTo_37 ?_
        refine u_mem (σ2 := (upM σ 11 0 q6)) (by first | (rw [upM_upM]; done) | (rw [upM_mid _ _ _ _ (by decide)]; done) | (rw [upM_mid _ _ _ _ (by decide), upM_upM]; done) | (rw [upM_mid _ _ _ _ (by decide), upM_mid _ _ _ _ (by decide)]; done)) ?_
        refine u_aload_n (pc := 40) F dX11_earTo_40 0 rfl rfl ?_
        refine u_getA (pc := 41) F dX11_earTo_41 (hL 11 0 0 (by decide) rfl) ck_11 fl_11_34 rfl (by decide) (by decide) ?_
        refine u_bipush (v := 15) (pc := 44) F dX11_earTo_44 (by decide) ?_
        obtain ⟨b7, h⟩ := d_ab_some h
        refine u_aldI1 (pc := 46) F dX11_earTo_46 (hL 11 0 14 (by decide) rfl) rfl b7 ?_
        obtain ⟨v8, hv8, h⟩ := d_lt_some h
        refine u_topi hv8 ?_
        refine u_istore_n (lv' := [(2, .int v8), (0, .ref (adr G (11, 0, 0))), (1, .int x1)]) (pc := 47) F dX11_earTo_47 rfl hY (by decide) rfl ?_
        refine u_aload_n (pc := 48) F dX11_earTo_48 1 rfl rfl ?_
        refine u_getA (pc := 49) F dX11_earTo_49 (hL 11 0 0 (by decide) rfl) ck_11 fl_11_34 rfl (by decide) (by decide) ?_
        refine u_bipush (v := 15) (pc := 52) F dX11_earTo_52 (by decide) ?_
        refine u_iload_n (pc := 54) F dX11_earTo_54 2 rfl rfl ?_
        obtain ⟨b9, h⟩ := d_ab_some h
        refine u_astI1 (pc := 55) F dX11_earTo_55 (hL 11 0 14 (by decide) rfl) rfl b9 ?_
        obtain ⟨g10, hg10, h⟩ := d_lt_some h
        refine u_mem (σ2 := (upM σ 11 0 g10)) (by rw [hg10]) ?_
        refine u_iload_n (pc := 56) F dX11_earTo_56 0 rfl rfl ?_
        have h1 := Option.some.inj h
        obtain ⟨hj0, hr0⟩ := Prod.mk.inj h1
        subst hj0
        subst hr0
        exact hR _ _ rfl dX11_earTo_57
      · rw [if_pos c5] at h
        refine u_ldc (v := -1000000003) (pc := 33) F dX11_earTo_33 kc_11_248 ?_
        have h1 := Option.some.inj h
        obtain ⟨hj0, hr0⟩ := Prod.mk.inj h1
        subst hj0
        subst hr0
        exact hR _ _ rfl dX11_earTo_35
  · rw [if_pos c2] at h
    refine u_ldc (v := -1000000002) (pc := 12) F dX11_earTo_12 kc_11_111 ?_
    have h1 := Option.some.inj h
    obtain ⟨hj0, hr0⟩ := Prod.mk.inj h1
    subst hj0
    subst hr0
    exact hR _ _ rfl dX11_earTo_14
/- RollingCodesModel.noise -/
def fX11_noise (mo : Grp) (x1 : Int32) (x2 : Int32) : Option (Int32 × Grp) :=
    d_bd (fX11_isGate mo x1) fun q1 => if q1 = 0 then (some ((-1000000001 : Int32), mo)) else (d_ab (25 : Int32) 59 <| d_bd (fX11_has (mo 14 (25 : Int32).toNatClampNeg) x1) fun q4 => if q4 = x2 then (some ((-1000000003 : Int32), mo)) else (d_bd (fX11_remember mo) fun q6 => d_ab (25 : Int32) 59 <| d_ab (25 : Int32) 59 <| d_lt (wr q6 14 (25 : Int32).toNatClampNeg ((q6 14 (25 : Int32).toNatClampNeg) ^^^ ((1 : Int32) <<< (x1 &&& 31)))) fun g9 => d_ab (25 : Int32) 59 <| some (g9 14 (25 : Int32).toNatClampNeg, g9)))
set_option maxHeartbeats 4000000 in
set_option maxRecDepth 100000 in
theorem c_X11_noise (G : G0) (hL : Im G) (x1 : Int32) (x2 : Int32) (σ : Mem) (mo : Grp) (e_mo : σ 11 0 = mo) (r : Int32) (mo' : Grp) (h : fX11_noise mo x1 x2 = some (r, mo')) :
    CI G yX11_noise cX11_noise 3 .int 3 [.ref (adr G (11, 0, 0)), .int x1, .int x2] σ r (upM σ 11 0 (mo')) := by
  refine CI.of (by decide +kernel) (Nat.le_of_ble_eq_true rfl) (fun Y hY F hR => ?_)
  unfold fX11_noise at h
  have F : Fx Y G cX11_noise RX11 3 := F
  refine u_mem (σ2 := (upM σ 11 0 mo)) (by rw [← e_mo]; simp only [upM_self]) ?_
  refine u_lv (lv' := [(0, .ref (adr G (11, 0, 0))), (1, .int x1), (2, .int x2)]) [0, 1, 2] rfl ?_
  refine u_aload_n (pc := 0) F dX11_noise_0 0 rfl rfl ?_
  refine u_iload_n (pc := 1) F dX11_noise_1 1 rfl rfl ?_
  obtain ⟨q1, hq1, h⟩ := d_bd_some h
  refine u_calli (pc := 2) F (As := [.int x1]) (c_X11_isGate G hL x1 (upM σ 11 0 mo) mo (upM_same _ _ _ _) q1 hq1) yv_X11_isGate ml_11_242 (hL 11 0 0 (by decide) rfl) rfl (by decide) rfl rfl (Nat.le_of_ble_eq_true rfl) dX11_noise_2 ?_
  refine u_if_ne (pc := 5) F 11 dX11_noise_5 (by decide) (fun c2 => ?_) (fun c2 => ?_)
  · rw [if_neg c2] at h
    refine u_aload_n (pc := 11) F dX11_noise_11 0 rfl rfl ?_
    refine u_getA (pc := 12) F dX11_noise_12 (hL 11 0 0 (by decide) rfl) ck_11 fl_11_34 rfl (by decide) (by decide) ?_
    refine u_bipush (v := 25) (pc := 15) F dX11_noise_15 (by decide) ?_
    obtain ⟨b3, h⟩ := d_ab_some h
    refine u_aldI1 (pc := 17) F dX11_noise_17 (hL 11 0 14 (by decide) rfl) rfl b3 ?_
    refine u_iload_n (pc := 18) F dX11_noise_18 1 rfl rfl ?_
    obtain ⟨q4, hq4, h⟩ := d_bd_some h
    refine u_callSi (pc := 19) F (As := [.int (mo 14 (25 : Int32).toNatClampNeg), .int x1]) (c_X11_has G hL (mo 14 (25 : Int32).toNatClampNeg) x1 (upM σ 11 0 mo) q4 hq4) ys_X11_has ml_11_208 (by decide) rfl rfl (Nat.le_of_ble_eq_true rfl) dX11_noise_19 ?_
    refine u_iload_n (pc := 22) F dX11_noise_22 2 rfl rfl ?_
    refine u_icmp_ne (pc := 23) F 29 dX11_noise_23 (by decide) (fun c5 => ?_) (fun c5 => ?_)
    · rw [if_neg c5] at h
      refine u_aload_n (pc := 29) F dX11_noise_29 0 rfl rfl ?_
      obtain ⟨q6, hq6, h⟩ := d_bd_some h
      refine u_callv (pc := 30) F (As := []) (c_X11_remember G hL (upM σ 11 0 mo) mo (upM_same _ _ _ _) q6 hq6) yv_X11_remember ml_11_249 (hL 11 0 0 (by decide) rfl) rfl (by decide) rfl rfl (Nat.le_of_ble_eq_true rfl) dX11_noise_30 ?_
      refine u_mem (σ2 := (upM σ 11 0 q6)) (by first | (rw [upM_upM]; done) | (rw [upM_mid _ _ _ _ (by decide)]; done) | (rw [upM_mid _ _ _ _ (by decide), upM_upM]; done) | (rw [upM_mid _ _ _ _ (by decide), upM_mid _ _ _ _ (by decide)]; done)) ?_
      refine u_aload_n (pc := 33) F dX11_noise_33 0 rfl rfl ?_
      refine u_getA (pc := 34) F dX11_noise_34 (hL 11 0 0 (by decide) rfl) ck_11 fl_11_34 rfl (by decide) (by decide) ?_
      refine u_bipush (v := 25) (pc := 37) F dX11_noise_37 (by decide) ?_
      refine u_dup2 (pc := 39) F dX11_noise_39 rfl rfl ?_
      obtain ⟨b7, h⟩ := d_ab_some h
      refine u_aldI1 (pc := 40) F dX11_noise_40 (hL 11 0 14 (by decide) rfl) rfl b7 ?_
      refine u_iconst (v := 1) (pc := 41) F dX11_noise_41 (by decide) ?_
      refine u_iload_n (pc := 42) F dX11_noise_42 1 rfl rfl ?_
      refine u_ishl (pc := 43) F dX11_noise_43 ?_
      refine u_ixor (pc := 44) F dX11_noise_44 ?_
      obtain ⟨b8, h⟩ := d_ab_some h
      refine u_astI1 (pc := 45) F dX11_noise_45 (hL 11 0 14 (by decide) rfl) rfl b8 ?_
      obtain ⟨g9, hg9, h⟩ := d_lt_some h
      refine u_mem (σ2 := (upM σ 11 0 g9)) (by rw [hg9]) ?_
      refine u_aload_n (pc := 46) F dX11_noise_46 0 rfl rfl ?_
      refine u_getA (pc := 47) F dX11_noise_47 (hL 11 0 0 (by decide) rfl) ck_11 fl_11_34 rfl (by decide) (by decide) ?_
      refine u_bipush (v := 25) (pc := 50) F dX11_noise_50 (by decide) ?_
      obtain ⟨b10, h⟩ := d_ab_some h
      refine u_aldI1 (pc := 52) F dX11_noise_52 (hL 11 0 14 (by decide) rfl) rfl b10 ?_
      have h1 := Option.some.inj h
      obtain ⟨hj0, hr0⟩ := Prod.mk.inj h1
      subst hj0
      subst hr0
      exact hR _ _ rfl dX11_noise_53
    · rw [if_pos c5] at h
      refine u_ldc (v := -1000000003) (pc := 26) F dX11_noise_26 kc_11_248 ?_
      have h1 := Option.some.inj h
      obtain ⟨hj0, hr0⟩ := Prod.mk.inj h1
      subst hj0
      subst hr0
      exact hR _ _ rfl dX11_noise_28
  · rw [if_pos c2] at h
    refine u_ldc (v := -1000000001) (pc := 8) F dX11_noise_8 kc_11_237 ?_
    have h1 := Option.some.inj h
    obtain ⟨hj0, hr0⟩ := Prod.mk.inj h1
    subst hj0
    subst hr0
    exact hR _ _ rfl dX11_noise_10
/- RollingCodesModel.teach -/
def fX11_teach (mo : Grp) (x1 : Int32) (x2 : Int32) : Option (Int32 × Grp) :=
    d_bd (fX11_isGate mo x1) fun q1 => if q1 = 0 then (some ((-1000000001 : Int32), mo)) else (d_bd (fX11_isFob mo x2) fun q3 => if q3 = 0 then (some ((-1000000001 : Int32), mo)) else (d_bd (fX11_remember mo) fun q5 => d_ab ((5 : Int32) + x2) 59 <| d_ab (((38 : Int32) + ((5 : Int32) * x1)) + x2) 59 <| d_lt (wr q5 14 (((38 : Int32) + ((5 : Int32) * x1)) + x2).toNatClampNeg (q5 14 ((5 : Int32) + x2).toNatClampNeg)) fun g8 => d_ab ((5 : Int32) + x2) 59 <| some (g8 14 ((5 : Int32) + x2).toNatClampNeg, g8)))
set_option maxHeartbeats 4000000 in
set_option maxRecDepth 100000 in
theorem c_X11_teach (G : G0) (hL : Im G) (x1 : Int32) (x2 : Int32) (σ : Mem) (mo : Grp) (e_mo : σ 11 0 = mo) (r : Int32) (mo' : Grp) (h : fX11_teach mo x1 x2 = some (r, mo')) :
    CI G yX11_teach cX11_teach 3 .int 3 [.ref (adr G (11, 0, 0)), .int x1, .int x2] σ r (upM σ 11 0 (mo')) := by
  refine CI.of (by decide +kernel) (Nat.le_of_ble_eq_true rfl) (fun Y hY F hR => ?_)
  unfold fX11_teach at h
  have F : Fx Y G cX11_teach RX11 3 := F
  refine u_mem (σ2 := (upM σ 11 0 mo)) (by rw [← e_mo]; simp only [upM_self]) ?_
  refine u_lv (lv' := [(0, .ref (adr G (11, 0, 0))), (1, .int x1), (2, .int x2)]) [0, 1, 2] rfl ?_
  refine u_aload_n (pc := 0) F dX11_teach_0 0 rfl rfl ?_
  refine u_iload_n (pc := 1) F dX11_teach_1 1 rfl rfl ?_
  obtain ⟨q1, hq1, h⟩ := d_bd_some h
  refine u_calli (pc := 2) F (As := [.int x1]) (c_X11_isGate G hL x1 (upM σ 11 0 mo) mo (upM_same _ _ _ _) q1 hq1) yv_X11_isGate ml_11_242 (hL 11 0 0 (by decide) rfl) rfl (by decide) rfl rfl (Nat.le_of_ble_eq_true rfl) dX11_teach_2 ?_
  refine u_if_eq (pc := 5) F 16 dX11_teach_5 (by decide) (fun c2 => ?_) (fun c2 => ?_)
  · rw [if_pos c2] at h
    refine u_ldc (v := -1000000001) (pc := 16) F dX11_teach_16 kc_11_237 ?_
    have h1 := Option.some.inj h
    obtain ⟨hj0, hr0⟩ := Prod.mk.inj h1
    subst hj0
    subst hr0
    exact hR _ _ rfl dX11_teach_18
  · rw [if_neg c2] at h
    refine u_aload_n (pc := 8) F dX11_teach_8 0 rfl rfl ?_
    refine u_iload_n (pc := 9) F dX11_teach_9 2 rfl rfl ?_
    obtain ⟨q3, hq3, h⟩ := d_bd_some h
    refine u_calli (pc := 10) F (As := [.int x2]) (c_X11_isFob G hL x2 (upM σ 11 0 mo) mo (upM_same _ _ _ _) q3 hq3) yv_X11_isFob ml_11_233 (hL 11 0 0 (by decide) rfl) rfl (by decide) rfl rfl (Nat.le_of_ble_eq_true rfl) dX11_teach_10 ?_
    refine u_if_ne (pc := 13) F 19 dX11_teach_13 (by decide) (fun c4 => ?_) (fun c4 => ?_)
    · rw [if_neg c4] at h
      refine u_aload_n (pc := 19) F dX11_teach_19 0 rfl rfl ?_
      obtain ⟨q5, hq5, h⟩ := d_bd_some h
      refine u_callv (pc := 20) F (As := []) (c_X11_remember G hL (upM σ 11 0 mo) mo (upM_same _ _ _ _) q5 hq5) yv_X11_remember ml_11_249 (hL 11 0 0 (by decide) rfl) rfl (by decide) rfl rfl (Nat.le_of_ble_eq_true rfl) dX11_teach_20 ?_
      refine u_mem (σ2 := (upM σ 11 0 q5)) (by first | (rw [upM_upM]; done) | (rw [upM_mid _ _ _ _ (by decide)]; done) | (rw [upM_mid _ _ _ _ (by decide), upM_upM]; done) | (rw [upM_mid _ _ _ _ (by decide), upM_mid _ _ _ _ (by decide)]; done)) ?_
      refine u_aload_n (pc := 23) F dX11_teach_23 0 rfl rfl ?_
      refine u_getA (pc := 24) F dX11_teach_24 (hL 11 0 0 (by decide) rfl) ck_11 fl_11_34 rfl (by decide) (by decide) ?_
      refine u_bipush (v := 38) (pc := 27) F dX11_teach_27 (by decide) ?_
      refine u_iconst (v := 5) (pc := 29) F dX11_teach_29 (by decide) ?_
      refine u_iload_n (pc := 30) F dX11_teach_30 1 rfl rfl ?_
      refine u_imul (pc := 31) F dX11_teach_31 ?_
      refine u_iadd (pc := 32) F dX11_teach_32 ?_
      refine u_iload_n (pc := 33) F dX11_teach_33 2 rfl rfl ?_
      refine u_iadd (pc := 34) F dX11_teach_34 ?_
      refine u_aload_n (pc := 35) F dX11_teach_35 0 rfl rfl ?_
      refine u_getA (pc := 36) F dX11_teach_36 (hL 11 0 0 (by decide) rfl) ck_11 fl_11_34 rfl (by decide) (by decide) ?_
      refine u_iconst (v := 5) (pc := 39) F dX11_teach_39 (by decide) ?_
      refine u_iload_n (pc := 40) F dX11_teach_40 2 rfl rfl ?_
      refine u_iadd (pc := 41) F dX11_teach_41 ?_
      obtain ⟨b6, h⟩ := d_ab_some h
      refine u_aldI1 (pc := 42) F dX11_teach_42 (hL 11 0 14 (by decide) rfl) rfl b6 ?_
      obtain ⟨b7, h⟩ := d_ab_some h
      refine u_astI1 (pc := 43) F dX11_teach_43 (hL 11 0 14 (by decide) rfl) rfl b7 ?_
      obtain ⟨g8, hg8, h⟩ := d_lt_some h
      refine u_mem (σ2 := (upM σ 11 0 g8)) (by rw [hg8]) ?_
      refine u_aload_n (pc := 44) F dX11_teach_44 0 rfl rfl ?_
      refine u_getA (pc := 45) F dX11_teach_45 (hL 11 0 0 (by decide) rfl) ck_11 fl_11_34 rfl (by decide) (by decide) ?_
      refine u_iconst (v := 5) (pc := 48) F dX11_teach_48 (by decide) ?_
      refine u_iload_n (pc := 49) F dX11_teach_49 2 rfl rfl ?_
      refine u_iadd (pc := 50) F dX11_teach_50 ?_
      obtain ⟨b9, h⟩ := d_ab_some h
      refine u_aldI1 (pc := 51) F dX11_teach_51 (hL 11 0 14 (by decide) rfl) rfl b9 ?_
      have h1 := Option.some.inj h
      obtain ⟨hj0, hr0⟩ := Prod.mk.inj h1
      subst hj0
      subst hr0
      exact hR _ _ rfl dX11_teach_52
    · rw [if_pos c4] at h
      refine u_ldc (v := -1000000001) (pc := 16) F dX11_teach_16 kc_11_237 ?_
      have h1 := Option.some.inj h
      obtain ⟨hj0, hr0⟩ := Prod.mk.inj h1
      subst hj0
      subst hr0
      exact hR _ _ rfl dX11_teach_18
/- RollingCodesModel.again -/
def fX11_again (mo : Grp) (x1 : Int32) : Option (Int32 × Grp) :=
    d_ab (16 : Int32) 59 <| d_bd (fX11_in (x1.toInt64) (0 : Int64) (((mo 14 (16 : Int32).toNatClampNeg) - (1 : Int32)).toInt64)) fun q2 => if q2 = 0 then (some ((-1000000001 : Int32), mo)) else (d_bd (fX11_remember mo) fun q4 => d_ab (15 : Int32) 59 <| d_ab ((17 : Int32) + x1) 59 <| d_bd (fX11_sendFrom q4 (q4 14 (15 : Int32).toNatClampNeg) (q4 0 2) (q4 14 ((17 : Int32) + x1).toNatClampNeg)) fun q7 => some (q7.1, q7.2))
set_option maxHeartbeats 4000000 in
set_option maxRecDepth 100000 in
theorem c_X11_again (G : G0) (hL : Im G) (x1 : Int32) (σ : Mem) (mo : Grp) (e_mo : σ 11 0 = mo) (r : Int32) (mo' : Grp) (h : fX11_again mo x1 = some (r, mo')) :
    CI G yX11_again cX11_again 2 .int 5 [.ref (adr G (11, 0, 0)), .int x1] σ r (upM σ 11 0 (mo')) := by
  refine CI.of (by decide +kernel) (Nat.le_of_ble_eq_true rfl) (fun Y hY F hR => ?_)
  unfold fX11_again at h
  have F : Fx Y G cX11_again RX11 5 := F
  refine u_mem (σ2 := (upM σ 11 0 mo)) (by rw [← e_mo]; simp only [upM_self]) ?_
  refine u_lv (lv' := [(0, .ref (adr G (11, 0, 0))), (1, .int x1)]) [0, 1] rfl ?_
  refine u_iload_n (pc := 0) F dX11_again_0 1 rfl rfl ?_
  refine u_i2l (pc := 1) F dX11_again_1 ?_
  refine u_lconst (v := 0) (pc := 2) F dX11_again_2 (by decide) ?_
  refine u_aload_n (pc := 3) F dX11_again_3 0 rfl rfl ?_
  refine u_getA (pc := 4) F dX11_again_4 (hL 11 0 0 (by decide) rfl) ck_11 fl_11_34 rfl (by decide) (by decide) ?_
  refine u_bipush (v := 16) (pc := 7) F dX11_again_7 (by decide) ?_
  obtain ⟨b1, h⟩ := d_ab_some h
  refine u_aldI1 (pc := 9) F dX11_again_9 (hL 11 0 14 (by decide) rfl) rfl b1 ?_
  refine u_iconst (v := 1) (pc := 10) F dX11_again_10 (by decide) ?_
  refine u_isub (pc := 11) F dX11_again_11 ?_
  refine u_i2l (pc := 12) F dX11_again_12 ?_
  obtain ⟨q2, hq2, h⟩ := d_bd_some h
  refine u_callSi (pc := 13) F (As := [.long (x1.toInt64), .long (0 : Int64), .long (((mo 14 (16 : Int32).toNatClampNeg) - (1 : Int32)).toInt64)]) (c_X11_in G hL (x1.toInt64) (0 : Int64) (((mo 14 (16 : Int32).toNatClampNeg) - (1 : Int32)).toInt64) (upM σ 11 0 mo) q2 hq2) ys_X11_in ml_11_105 (by decide) rfl rfl (Nat.le_of_ble_eq_true rfl) dX11_again_13 ?_
  refine u_if_ne (pc := 16) F 22 dX11_again_16 (by decide) (fun c3 => ?_) (fun c3 => ?_)
  · rw [if_neg c3] at h
    refine u_aload_n (pc := 22) F dX11_again_22 0 rfl rfl ?_
    obtain ⟨q4, hq4, h⟩ := d_bd_some h
    refine u_callv (pc := 23) F (As := []) (c_X11_remember G hL (upM σ 11 0 mo) mo (upM_same _ _ _ _) q4 hq4) yv_X11_remember ml_11_249 (hL 11 0 0 (by decide) rfl) rfl (by decide) rfl rfl (Nat.le_of_ble_eq_true rfl) dX11_again_23 ?_
    refine u_mem (σ2 := (upM σ 11 0 q4)) (by first | (rw [upM_upM]; done) | (rw [upM_mid _ _ _ _ (by decide)]; done) | (rw [upM_mid _ _ _ _ (by decide), upM_upM]; done) | (rw [upM_mid _ _ _ _ (by decide), upM_mid _ _ _ _ (by decide)]; done)) ?_
    refine u_aload_n (pc := 26) F dX11_again_26 0 rfl rfl ?_
    refine u_aload_n (pc := 27) F dX11_again_27 0 rfl rfl ?_
    refine u_getA (pc := 28) F dX11_again_28 (hL 11 0 0 (by decide) rfl) ck_11 fl_11_34 rfl (by decide) (by decide) ?_
    refine u_bipush (v := 15) (pc := 31) F dX11_again_31 (by decide) ?_
    obtain ⟨b5, h⟩ := d_ab_some h
    refine u_aldI1 (pc := 33) F dX11_again_33 (hL 11 0 14 (by decide) rfl) rfl b5 ?_
    refine u_aload_n (pc := 34) F dX11_again_34 0 rfl rfl ?_
    refine u_get1 (pc := 35) F dX11_again_35 (hL 11 0 0 (by decide) rfl) ck_11 fl_11_166 rfl (by decide) ?_
    refine u_aload_n (pc := 38) F dX11_again_38 0 rfl rfl ?_
    refine u_getA (pc := 39) F dX11_again_39 (hL 11 0 0 (by decide) rfl) ck_11 fl_11_34 rfl (by decide) (by decide) ?_
    refine u_bipush (v := 17) (pc := 42) F dX11_again_42 (by decide) ?_
    refine u_iload_n (pc := 44) F dX11_again_44 1 rfl rfl ?_
    refine u_iadd (pc := 45) F dX11_again_45 ?_
    obtain ⟨b6, h⟩ := d_ab_some h
    refine u_aldI1 (pc := 46) F dX11_again_46 (hL 11 0 14 (by decide) rfl) rfl b6 ?_
    obtain ⟨q7, hq7, h⟩ := d_bd_some h
    refine u_calli (pc := 47) F (As := [.int (q4 14 (15 : Int32).toNatClampNeg), .int (q4 0 2), .int (q4 14 ((17 : Int32) + x1).toNatClampNeg)]) (c_X11_sendFrom G hL (q4 14 (15 : Int32).toNatClampNeg) (q4 0 2) (q4 14 ((17 : Int32) + x1).toNatClampNeg) (upM σ 11 0 q4) q4 (upM_same _ _ _ _) q7.1 q7.2 hq7) yv_X11_sendFrom ml_11_217 (hL 11 0 0 (by decide) rfl) rfl (by decide) rfl rfl (Nat.le_of_ble_eq_true rfl) dX11_again_47 ?_
    refine u_mem (σ2 := (upM σ 11 0 q7.2)) (by first | (rw [upM_upM]; done) | (rw [upM_mid _ _ _ _ (by decide)]; done) | (rw [upM_mid _ _ _ _ (by decide), upM_upM]; done) | (rw [upM_mid _ _ _ _ (by decide), upM_mid _ _ _ _ (by decide)]; done)) ?_
    have h1 := Option.some.inj h
    obtain ⟨hj0, hr0⟩ := Prod.mk.inj h1
    subst hj0
    subst hr0
    exact hR _ _ rfl dX11_again_50
  · rw [if_pos c3] at h
    refine u_ldc (v := -1000000001) (pc := 19) F dX11_again_19 kc_11_237 ?_
    have h1 := Option.some.inj h
    obtain ⟨hj0, hr0⟩ := Prod.mk.inj h1
    subst hj0
    subst hr0
    exact hR _ _ rfl dX11_again_21
/- RollingCodesModel.fill -/
def fX11_fill (mo : Grp) (x1 : Int32) : Option (Int32 × Grp) :=
    d_bd (fX11_isFob mo x1) fun q1 => if q1 = 0 then (some ((-1000000001 : Int32), mo)) else (d_bd (fX11_remember mo) fun q3 => d_ab ((10 : Int32) + x1) 59 <| d_lt (q3 14 ((10 : Int32) + x1).toNatClampNeg) fun v5 => d_ab ((10 : Int32) + x1) 59 <| d_lt (wr q3 14 ((10 : Int32) + x1).toNatClampNeg (60 : Int32)) fun g7 => some (v5, g7))
set_option maxHeartbeats 4000000 in
set_option maxRecDepth 100000 in
theorem c_X11_fill (G : G0) (hL : Im G) (x1 : Int32) (σ : Mem) (mo : Grp) (e_mo : σ 11 0 = mo) (r : Int32) (mo' : Grp) (h : fX11_fill mo x1 = some (r, mo')) :
    CI G yX11_fill cX11_fill 3 .int 3 [.ref (adr G (11, 0, 0)), .int x1] σ r (upM σ 11 0 (mo')) := by
  refine CI.of (by decide +kernel) (Nat.le_of_ble_eq_true rfl) (fun Y hY F hR => ?_)
  unfold fX11_fill at h
  have F : Fx Y G cX11_fill RX11 3 := F
  refine u_mem (σ2 := (upM σ 11 0 mo)) (by rw [← e_mo]; simp only [upM_self]) ?_
  refine u_lv (lv' := [(0, .ref (adr G (11, 0, 0))), (1, .int x1)]) [0, 1] rfl ?_
  refine u_aload_n (pc := 0) F dX11_fill_0 0 rfl rfl ?_
  refine u_iload_n (pc := 1) F dX11_fill_1 1 rfl rfl ?_
  obtain ⟨q1, hq1, h⟩ := d_bd_some h
  refine u_calli (pc := 2) F (As := [.int x1]) (c_X11_isFob G hL x1 (upM σ 11 0 mo) mo (upM_same _ _ _ _) q1 hq1) yv_X11_isFob ml_11_233 (hL 11 0 0 (by decide) rfl) rfl (by decide) rfl rfl (Nat.le_of_ble_eq_true rfl) dX11_fill_2 ?_
  refine u_if_ne (pc := 5) F 11 dX11_fill_5 (by decide) (fun c2 => ?_) (fun c2 => ?_)
  · rw [if_neg c2] at h
    refine u_aload_n (pc := 11) F dX11_fill_11 0 rfl rfl ?_
    obtain ⟨q3, hq3, h⟩ := d_bd_some h
    refine u_callv (pc := 12) F (As := []) (c_X11_remember G hL (upM σ 11 0 mo) mo (upM_same _ _ _ _) q3 hq3) yv_X11_remember ml_11_249 (hL 11 0 0 (by decide) rfl) rfl (by decide) rfl rfl (Nat.le_of_ble_eq_true rfl) dX11_fill_12 ?_
    refine u_mem (σ2 := (upM σ 11 0 q3)) (by first | (rw [upM_upM]; done) | (rw [upM_mid _ _ _ _ (by decide)]; done) | (rw [upM_mid _ _ _ _ (by decide), upM_upM]; done) | (rw [upM_mid _ _ _ _ (by decide), upM_mid _ _ _ _ (by decide)]; done)) ?_
    refine u_aload_n (pc := 15) F dX11_fill_15 0 rfl rfl ?_
    refine u_getA (pc := 16) F dX11_fill_16 (hL 11 0 0 (by decide) rfl) ck_11 fl_11_34 rfl (by decide) (by decide) ?_
    refine u_bipush (v := 10) (pc := 19) F dX11_fill_19 (by decide) ?_
    refine u_iload_n (pc := 21) F dX11_fill_21 1 rfl rfl ?_
    refine u_iadd (pc := 22) F dX11_fill_22 ?_
    obtain ⟨b4, h⟩ := d_ab_some h
    refine u_aldI1 (pc := 23) F dX11_fill_23 (hL 11 0 14 (by decide) rfl) rfl b4 ?_
    obtain ⟨v5, hv5, h⟩ := d_lt_some h
    refine u_topi hv5 ?_
    refine u_istore_n (lv' := [(2, .int v5), (0, .ref (adr G (11, 0, 0))), (1, .int x1)]) (pc := 24) F dX11_fill_24 rfl hY (by decide) rfl ?_
    refine u_aload_n (pc := 25) F dX11_fill_25 1 rfl rfl ?_
    refine u_getA (pc := 26) F dX11_fill_26 (hL 11 0 0 (by decide) rfl) ck_11 fl_11_34 rfl (by decide) (by decide) ?_
    refine u_bipush (v := 10) (pc := 29) F dX11_fill_29 (by decide) ?_
    refine u_iload_n (pc := 31) F dX11_fill_31 2 rfl rfl ?_
    refine u_iadd (pc := 32) F dX11_fill_32 ?_
    refine u_bipush (v := 60) (pc := 33) F dX11_fill_33 (by decide) ?_
    obtain ⟨b6, h⟩ := d_ab_some h
    refine u_astI1 (pc := 35) F dX11_fill_35 (hL 11 0 14 (by decide) rfl) rfl b6 ?_
    obtain ⟨g7, hg7, h⟩ := d_lt_some h
    refine u_mem (σ2 := (upM σ 11 0 g7)) (by rw [hg7]) ?_
    refine u_iload_n (pc := 36) F dX11_fill_36 0 rfl rfl ?_
    have h1 := Option.some.inj h
    obtain ⟨hj0, hr0⟩ := Prod.mk.inj h1
    subst hj0
    subst hr0
    exact hR _ _ rfl dX11_fill_37
  · rw [if_pos c2] at h
    refine u_ldc (v := -1000000001) (pc := 8) F dX11_fill_8 kc_11_237 ?_
    have h1 := Option.some.inj h
    obtain ⟨hj0, hr0⟩ := Prod.mk.inj h1
    subst hj0
    subst hr0
    exact hR _ _ rfl dX11_fill_10
/- RollingCodesModel.draw -/
def fX11_draw (mo : Grp) (x1 : Int32) : Option (Int32 × Grp) :=
    d_lt (wr mo 0 14 ((jleml ((((mo 0 14).toInt64) * (1103515245 : Int64)) + (12345 : Int64)) (2147483648 : Int64)).toInt32)) fun g1 => d_nz x1 <| some (jrem ((g1 0 14) / (65536 : Int32)) x1, g1)
set_option maxHeartbeats 4000000 in
set_option maxRecDepth 100000 in
theorem c_X11_draw (G : G0) (hL : Im G) (x1 : Int32) (σ : Mem) (mo : Grp) (e_mo : σ 11 0 = mo) (r : Int32) (mo' : Grp) (h : fX11_draw mo x1 = some (r, mo')) :
    CI G yX11_draw cX11_draw 2 .int 1 [.ref (adr G (11, 0, 0)), .int x1] σ r (upM σ 11 0 (mo')) := by
  refine CI.of (by decide +kernel) (Nat.le_of_ble_eq_true rfl) (fun Y hY F hR => ?_)
  unfold fX11_draw at h
  have F : Fx Y G cX11_draw RX11 1 := F
  refine u_mem (σ2 := (upM σ 11 0 mo)) (by rw [← e_mo]; simp only [upM_self]) ?_
  refine u_lv (lv' := [(0, .ref (adr G (11, 0, 0))), (1, .int x1)]) [0, 1] rfl ?_
  refine u_aload_n (pc := 0) F dX11_draw_0 0 rfl rfl ?_
  refine u_aload_n (pc := 1) F dX11_draw_1 0 rfl rfl ?_
  refine u_get1 (pc := 2) F dX11_draw_2 (hL 11 0 0 (by decide) rfl) ck_11 fl_11_257 rfl (by decide) ?_
  refine u_i2l (pc := 5) F dX11_draw_5 ?_
  refine u_ldc2 (v := 1103515245) (pc := 6) F dX11_draw_6 kc_11_260 ?_
  refine u_lmul (pc := 9) F dX11_draw_9 ?_
  refine u_ldc2 (v := 12345) (pc := 10) F dX11_draw_10 kc_11_262 ?_
  refine u_ladd (pc := 13) F dX11_draw_13 ?_
  refine u_ldc2 (v := 2147483648) (pc := 14) F dX11_draw_14 kc_11_264 ?_
  refine u_lrem (pc := 17) F dX11_draw_17 (by decide) ?_
  refine u_l2i (pc := 18) F dX11_draw_18 ?_
  refine u_put1 (pc := 19) F dX11_draw_19 (hL 11 0 0 (by decide) rfl) ck_11 fl_11_257 rfl (by decide) rfl (ty0 := .int) (by decide +kernel) rfl rfl ?_
  obtain ⟨g1, hg1, h⟩ := d_lt_some h
  refine u_mem (σ2 := (upM σ 11 0 g1)) (by rw [hg1]) ?_
  refine u_aload_n (pc := 22) F dX11_draw_22 0 rfl rfl ?_
  refine u_get1 (pc := 23) F dX11_draw_23 (hL 11 0 0 (by decide) rfl) ck_11 fl_11_257 rfl (by decide) ?_
  refine u_ldc_w (v := 65536) (pc := 26) F dX11_draw_26 kc_11_266 ?_
  refine u_idiv (pc := 29) F dX11_draw_29 (by decide) ?_
  refine u_iload_n (pc := 30) F dX11_draw_30 1 rfl rfl ?_
  obtain ⟨c2, h⟩ := d_nz_some h
  refine u_irem (pc := 31) F dX11_draw_31 c2 ?_
  have h1 := Option.some.inj h
  obtain ⟨hj0, hr0⟩ := Prod.mk.inj h1
  subst hj0
  subst hr0
  exact hR _ _ rfl dX11_draw_32
/- RollingCodesModel.chance -/
def fX11_chance_96  (mo : Grp) (x1 : Int32) : Option (Grp) :=
    if x1 = (4 : Int32) then (d_ab (16 : Int32) 59 <| if (mo 14 (16 : Int32).toNatClampNeg) ≤ 0 then (some mo) else (d_ab (15 : Int32) 59 <| d_ab (16 : Int32) 59 <| d_bd (fX11_draw mo (mo 14 (16 : Int32).toNatClampNeg)) fun q11 => d_ab ((17 : Int32) + q11.1) 59 <| d_bd (fX11_sendFrom q11.2 (mo 14 (15 : Int32).toNatClampNeg) (mo 0 2) (q11.2 14 ((17 : Int32) + q11.1).toNatClampNeg)) fun q13 => some q13.2)) else (some mo)
def fX11_chance_41  (mo : Grp) (x1 : Int32) (x2 : Int32) : Option (Grp) :=
    if x1 = (2 : Int32) then (d_bd (fX11_draw mo (10 : Int32)) fun q19 => d_ab x2 59 <| d_lt (wr q19.2 14 x2.toNatClampNeg q19.1) fun g21 => some g21) else (if x1 = (3 : Int32) then (if (mo 0 3) ≤ 0 then (fX11_chance_96 mo x1) else (d_ab (25 : Int32) 59 <| d_bd (fX11_draw mo (mo 0 3)) fun q16 => d_ab (25 : Int32) 59 <| d_lt (wr q16.2 14 (25 : Int32).toNatClampNeg ((mo 14 (25 : Int32).toNatClampNeg) ^^^ ((1 : Int32) <<< (q16.1 &&& 31)))) fun g18 => some g18)) else (fX11_chance_96 mo x1))
def fX11_chance (mo : Grp) : Option (Grp) :=
    d_bd (fX11_draw mo (5 : Int32)) fun q1 => d_bd (fX11_draw q1.2 (q1.2 0 7)) fun q2 => if q1.1 < (2 : Int32) then (d_ab ((10 : Int32) + q2.1) 59 <| if (q2.2 14 ((10 : Int32) + q2.1).toNatClampNeg) ≤ 0 then (fX11_chance_41 q2.2 q1.1 q2.1) else (d_bd (fX11_pressNow q2.2 q2.1) fun q24 => some q24.2)) else (fX11_chance_41 q2.2 q1.1 q2.1)
set_option maxHeartbeats 4000000 in
set_option maxRecDepth 100000 in
theorem wX11_chance_96 (Y : Dy) (G : G0) (hL : Im G) (σ : Mem) (F : Fx Y G cX11_chance RX11 7) (hY : Y.2.2.2.2.2.2.2.2.2.2.2.1 = 4) (mo' : Grp) (hR : ∀ (pc : Nat) (lv : List (Nat × Value)), decode cX11_chance pc = .ok (.return_, 1) → U Y G (upM σ 11 0 (mo')) pc lv []) :
    ∀ (mo : Grp) (x1 : Int32), fX11_chance_96 mo x1 = some mo' → U Y G (upM σ 11 0 mo) 96 [(0, .ref (adr G (11, 0, 0))), (1, .int x1)] [] := by
  intro mo x1 h
  unfold fX11_chance_96 at h
  refine u_iload_n (pc := 96) F dX11_chance_96 1 rfl rfl ?_
  refine u_iconst (v := 4) (pc := 97) F dX11_chance_97 (by decide) ?_
  refine u_icmp_ne (pc := 98) F 146 dX11_chance_98 (by decide) (fun c6 => ?_) (fun c6 => ?_)
  · rw [if_neg c6] at h
    have h1 := Option.some.inj h
    subst h1
    exact hR _ _ dX11_chance_146
  · rw [if_pos c6] at h
    refine u_aload_n (pc := 101) F dX11_chance_101 0 rfl rfl ?_
    refine u_getA (pc := 102) F dX11_chance_102 (hL 11 0 0 (by decide) rfl) ck_11 fl_11_34 rfl (by decide) (by decide) ?_
    refine u_bipush (v := 16) (pc := 105) F dX11_chance_105 (by decide) ?_
    obtain ⟨b7, h⟩ := d_ab_some h
    refine u_aldI1 (pc := 107) F dX11_chance_107 (hL 11 0 14 (by decide) rfl) rfl b7 ?_
    refine u_if_le (pc := 108) F 146 dX11_chance_108 (by decide) (fun c8 => ?_) (fun c8 => ?_)
    · rw [if_pos c8] at h
      have h1 := Option.some.inj h
      subst h1
      exact hR _ _ dX11_chance_146
    · rw [if_neg c8] at h
      refine u_aload_n (pc := 111) F dX11_chance_111 0 rfl rfl ?_
      refine u_aload_n (pc := 112) F dX11_chance_112 0 rfl rfl ?_
      refine u_getA (pc := 113) F dX11_chance_113 (hL 11 0 0 (by decide) rfl) ck_11 fl_11_34 rfl (by decide) (by decide) ?_
      refine u_bipush (v := 15) (pc := 116) F dX11_chance_116 (by decide) ?_
      obtain ⟨b9, h⟩ := d_ab_some h
      refine u_aldI1 (pc := 118) F dX11_chance_118 (hL 11 0 14 (by decide) rfl) rfl b9 ?_
      refine u_aload_n (pc := 119) F dX11_chance_119 0 rfl rfl ?_
      refine u_get1 (pc := 120) F dX11_chance_120 (hL 11 0 0 (by decide) rfl) ck_11 fl_11_166 rfl (by decide) ?_
      refine u_aload_n (pc := 123) F dX11_chance_123 0 rfl rfl ?_
      refine u_getA (pc := 124) F dX11_chance_124 (hL 11 0 0 (by decide) rfl) ck_11 fl_11_34 rfl (by decide) (by decide) ?_
      refine u_bipush (v := 17) (pc := 127) F dX11_chance_127 (by decide) ?_
      refine u_aload_n (pc := 129) F dX11_chance_129 0 rfl rfl ?_
      refine u_aload_n (pc := 130) F dX11_chance_130 0 rfl rfl ?_
      refine u_getA (pc := 131) F dX11_chance_131 (hL 11 0 0 (by decide) rfl) ck_11 fl_11_34 rfl (by decide) (by decide) ?_
      refine u_bipush (v := 16) (pc := 134) F dX11_chance_134 (by decide) ?_
      obtain ⟨b10, h⟩ := d_ab_some h
      refine u_aldI1 (pc := 136) F dX11_chance_136 (hL 11 0 14 (by decide) rfl) rfl b10 ?_
      obtain ⟨q11, hq11, h⟩ := d_bd_some h
      refine u_calli (pc := 137) F (As := [.int (mo 14 (16 : Int32).toNatClampNeg)]) (c_X11_draw G hL (mo 14 (16 : Int32).toNatClampNeg) (upM σ 11 0 mo) mo (upM_same _ _ _ _) q11.1 q11.2 hq11) yv_X11_draw ml_11_267 (hL 11 0 0 (by decide) rfl) rfl (by decide) rfl rfl (Nat.le_of_ble_eq_true rfl) dX11_chance_137 ?_
      refine u_mem (σ2 := (upM σ 11 0 q11.2)) (by first | (rw [upM_upM]; done) | (rw [upM_mid _ _ _ _ (by decide)]; done) | (rw [upM_mid _ _ _ _ (by decide), upM_upM]; done) | (rw [upM_mid _ _ _ _ (by decide), upM_mid _ _ _ _ (by decide)]; done)) ?_
      refine u_iadd (pc := 140) F dX11_chance_140 ?_
      obtain ⟨b12, h⟩ := d_ab_some h
      refine u_aldI1 (pc := 141) F dX11_chance_141 (hL 11 0 14 (by decide) rfl) rfl b12 ?_
      obtain ⟨q13, hq13, h⟩ := d_bd_some h
      refine u_calli (pc := 142) F (As := [.int (mo 14 (15 : Int32).toNatClampNeg), .int (mo 0 2), .int (q11.2 14 ((17 : Int32) + q11.1).toNatClampNeg)]) (c_X11_sendFrom G hL (mo 14 (15 : Int32).toNatClampNeg) (mo 0 2) (q11.2 14 ((17 : Int32) + q11.1).toNatClampNeg) (upM σ 11 0 q11.2) q11.2 (upM_same _ _ _ _) q13.1 q13.2 hq13) yv_X11_sendFrom ml_11_217 (hL 11 0 0 (by decide) rfl) rfl (by decide) rfl rfl (Nat.le_of_ble_eq_true rfl) dX11_chance_142 ?_
      refine u_mem (σ2 := (upM σ 11 0 q13.2)) (by first | (rw [upM_upM]; done) | (rw [upM_mid _ _ _ _ (by decide)]; done) | (rw [upM_mid _ _ _ _ (by decide), upM_upM]; done) | (rw [upM_mid _ _ _ _ (by decide), upM_mid _ _ _ _ (by decide)]; done)) ?_
      refine u_istore_n (lv' := [(3, .int q13.1), (0, .ref (adr G (11, 0, 0))), (1, .int x1)]) (pc := 145) F dX11_chance_145 rfl hY (by decide) rfl ?_
      have h1 := Option.some.inj h
      subst h1
      exact hR _ _ dX11_chance_146
set_option maxHeartbeats 4000000 in
set_option maxRecDepth 100000 in
theorem wX11_chance_41 (Y : Dy) (G : G0) (hL : Im G) (σ : Mem) (F : Fx Y G cX11_chance RX11 7) (hY : Y.2.2.2.2.2.2.2.2.2.2.2.1 = 4) (mo' : Grp) (hR : ∀ (pc : Nat) (lv : List (Nat × Value)), decode cX11_chance pc = .ok (.return_, 1) → U Y G (upM σ 11 0 (mo')) pc lv []) :
    ∀ (mo : Grp) (x1 : Int32) (x2 : Int32), fX11_chance_41 mo x1 x2 = some mo' → U Y G (upM σ 11 0 mo) 41 [(0, .ref (adr G (11, 0, 0))), (1, .int x1), (2, .int x2)] [] := by
  intro mo x1 x2 h
  unfold fX11_chance_41 at h
  refine u_iload_n (pc := 41) F dX11_chance_41 1 rfl rfl ?_
  refine u_iconst (v := 2) (pc := 42) F dX11_chance_42 (by decide) ?_
  refine u_icmp_ne (pc := 43) F 61 dX11_chance_43 (by decide) (fun c4 => ?_) (fun c4 => ?_)
  · rw [if_neg c4] at h
    refine u_iload_n (pc := 61) F dX11_chance_61 1 rfl rfl ?_
    refine u_iconst (v := 3) (pc := 62) F dX11_chance_62 (by decide) ?_
    refine u_icmp_ne (pc := 63) F 96 dX11_chance_63 (by decide) (fun c5 => ?_) (fun c5 => ?_)
    · rw [if_neg c5] at h
      refine u_lv (lv' := [(0, .ref (adr G (11, 0, 0))), (1, .int x1)]) [0, 1] rfl ?_
      exact wX11_chance_96 Y G hL σ F hY mo' hR mo x1 h
    · rw [if_pos c5] at h
      refine u_aload_n (pc := 66) F dX11_chance_66 0 rfl rfl ?_
      refine u_get1 (pc := 67) F dX11_chance_67 (hL 11 0 0 (by decide) rfl) ck_11 fl_11_99 rfl (by decide) ?_
      refine u_if_le (pc := 70) F 96 dX11_chance_70 (by decide) (fun c14 => ?_) (fun c14 => ?_)
      · rw [if_pos c14] at h
        refine u_lv (lv' := [(0, .ref (adr G (11, 0, 0))), (1, .int x1)]) [0, 1] rfl ?_
        exact wX11_chance_96 Y G hL σ F hY mo' hR mo x1 h
      · rw [if_neg c14] at h
        refine u_aload_n (pc := 73) F dX11_chance_73 0 rfl rfl ?_
        refine u_getA (pc := 74) F dX11_chance_74 (hL 11 0 0 (by decide) rfl) ck_11 fl_11_34 rfl (by decide) (by decide) ?_
        refine u_bipush (v := 25) (pc := 77) F dX11_chance_77 (by decide) ?_
        refine u_dup2 (pc := 79) F dX11_chance_79 rfl rfl ?_
        obtain ⟨b15, h⟩ := d_ab_some h
        refine u_aldI1 (pc := 80) F dX11_chance_80 (hL 11 0 14 (by decide) rfl) rfl b15 ?_
        refine u_iconst (v := 1) (pc := 81) F dX11_chance_81 (by decide) ?_
        refine u_aload_n (pc := 82) F dX11_chance_82 0 rfl rfl ?_
        refine u_aload_n (pc := 83) F dX11_chance_83 0 rfl rfl ?_
        refine u_get1 (pc := 84) F dX11_chance_84 (hL 11 0 0 (by decide) rfl) ck_11 fl_11_99 rfl (by decide) ?_
        obtain ⟨q16, hq16, h⟩ := d_bd_some h
        refine u_calli (pc := 87) F (As := [.int (mo 0 3)]) (c_X11_draw G hL (mo 0 3) (upM σ 11 0 mo) mo (upM_same _ _ _ _) q16.1 q16.2 hq16) yv_X11_draw ml_11_267 (hL 11 0 0 (by decide) rfl) rfl (by decide) rfl rfl (Nat.le_of_ble_eq_true rfl) dX11_chance_87 ?_
        refine u_mem (σ2 := (upM σ 11 0 q16.2)) (by first | (rw [upM_upM]; done) | (rw [upM_mid _ _ _ _ (by decide)]; done) | (rw [upM_mid _ _ _ _ (by decide), upM_upM]; done) | (rw [upM_mid _ _ _ _ (by decide), upM_mid _ _ _ _ (by decide)]; done)) ?_
        refine u_ishl (pc := 90) F dX11_chance_90 ?_
        refine u_ixor (pc := 91) F dX11_chance_91 ?_
        obtain ⟨b17, h⟩ := d_ab_some h
        refine u_astI1 (pc := 92) F dX11_chance_92 (hL 11 0 14 (by decide) rfl) rfl b17 ?_
        obtain ⟨g18, hg18, h⟩ := d_lt_some h
        refine u_mem (σ2 := (upM σ 11 0 g18)) (by rw [hg18]) ?_
        refine u_goto (pc := 93) F 146 dX11_chance_93 (by decide) ?_
        have h1 := Option.some.inj h
        subst h1
        exact hR _ _ dX11_chance_146
  · rw [if_pos c4] at h
    refine u_aload_n (pc := 46) F dX11_chance_46 0 rfl rfl ?_
    refine u_getA (pc := 47) F dX11_chance_47 (hL 11 0 0 (by decide) rfl) ck_11 fl_11_34 rfl (by decide) (by decide) ?_
    refine u_iload_n (pc := 50) F dX11_chance_50 2 rfl rfl ?_
    refine u_aload_n (pc := 51) F dX11_chance_51 0 rfl rfl ?_
    refine u_bipush (v := 10) (pc := 52) F dX11_chance_52 (by decide) ?_
    obtain ⟨q19, hq19, h⟩ := d_bd_some h
    refine u_calli (pc := 54) F (As := [.int (10 : Int32)]) (c_X11_draw G hL (10 : Int32) (upM σ 11 0 mo) mo (upM_same _ _ _ _) q19.1 q19.2 hq19) yv_X11_draw ml_11_267 (hL 11 0 0 (by decide) rfl) rfl (by decide) rfl rfl (Nat.le_of_ble_eq_true rfl) dX11_chance_54 ?_
    refine u_mem (σ2 := (upM σ 11 0 q19.2)) (by first | (rw [upM_upM]; done) | (rw [upM_mid _ _ _ _ (by decide)]; done) | (rw [upM_mid _ _ _ _ (by decide), upM_upM]; done) | (rw [upM_mid _ _ _ _ (by decide), upM_mid _ _ _ _ (by decide)]; done)) ?_
    obtain ⟨b20, h⟩ := d_ab_some h
    refine u_astI1 (pc := 57) F dX11_chance_57 (hL 11 0 14 (by decide) rfl) rfl b20 ?_
    obtain ⟨g21, hg21, h⟩ := d_lt_some h
    refine u_mem (σ2 := (upM σ 11 0 g21)) (by rw [hg21]) ?_
    refine u_goto (pc := 58) F 146 dX11_chance_58 (by decide) ?_
    have h1 := Option.some.inj h
    subst h1
    exact hR _ _ dX11_chance_146
set_option maxHeartbeats 4000000 in
set_option maxRecDepth 100000 in
theorem c_X11_chance (G : G0) (hL : Im G) (σ : Mem) (mo : Grp) (e_mo : σ 11 0 = mo) (mo' : Grp) (h : fX11_chance mo = some mo') :
    CV G yX11_chance cX11_chance 4 7 [.ref (adr G (11, 0, 0))] σ (upM σ 11 0 (mo')) := by
  refine CV.of (by decide +kernel) (Nat.le_of_ble_eq_true rfl) (fun Y hY F hR => ?_)
  unfold fX11_chance at h
  have F : Fx Y G cX11_chance RX11 7 := F
  refine u_mem (σ2 := (upM σ 11 0 mo)) (by rw [← e_mo]; simp only [upM_self]) ?_
  refine u_lv (lv' := [(0, .ref (adr G (11, 0, 0)))]) [0] rfl ?_
  refine u_aload_n (pc := 0) F dX11_chance_0 0 rfl rfl ?_
  refine u_iconst (v := 5) (pc := 1) F dX11_chance_1 (by decide) ?_
  obtain ⟨q1, hq1, h⟩ := d_bd_some h
  refine u_calli (pc := 2) F (As := [.int (5 : Int32)]) (c_X11_draw G hL (5 : Int32) (upM σ 11 0 mo) mo (upM_same _ _ _ _) q1.1 q1.2 hq1) yv_X11_draw ml_11_267 (hL 11 0 0 (by decide) rfl) rfl (by decide) rfl rfl (Nat.le_of_ble_eq_true rfl) dX11_chance_2 ?_
  refine u_mem (σ2 := (upM σ 11 0 q1.2)) (by first | (rw [upM_upM]; done) | (rw [upM_mid _ _ _ _ (by decide)]; done) | (rw [upM_mid _ _ _ _ (by decide), upM_upM]; done) | (rw [upM_mid _ _ _ _ (by decide), upM_mid _ _ _ _ (by decide)]; done)) ?_
  refine u_istore_n (lv' := [(1, .int q1.1), (0, .ref (adr G (11, 0, 0)))]) (pc := 5) F dX11_chance_5 rfl hY (by decide) rfl ?_
  refine u_aload_n (pc := 6) F dX11_chance_6 1 rfl rfl ?_
  refine u_aload_n (pc := 7) F dX11_chance_7 1 rfl rfl ?_
  refine u_get1 (pc := 8) F dX11_chance_8 (hL 11 0 0 (by decide) rfl) ck_11 fl_11_102 rfl (by decide) ?_
  obtain ⟨q2, hq2, h⟩ := d_bd_some h
  refine u_calli (pc := 11) F (As := [.int (q1.2 0 7)]) (c_X11_draw G hL (q1.2 0 7) (upM σ 11 0 q1.2) q1.2 (upM_same _ _ _ _) q2.1 q2.2 hq2) yv_X11_draw ml_11_267 (hL 11 0 0 (by decide) rfl) rfl (by decide) rfl rfl (Nat.le_of_ble_eq_true rfl) dX11_chance_11 ?_
  refine u_mem (σ2 := (upM σ 11 0 q2.2)) (by first | (rw [upM_upM]; done) | (rw [upM_mid _ _ _ _ (by decide)]; done) | (rw [upM_mid _ _ _ _ (by decide), upM_upM]; done) | (rw [upM_mid _ _ _ _ (by decide), upM_mid _ _ _ _ (by decide)]; done)) ?_
  refine u_istore_n (lv' := [(2, .int q2.1), (1, .int q1.1), (0, .ref (adr G (11, 0, 0)))]) (pc := 14) F dX11_chance_14 rfl hY (by decide) rfl ?_
  refine u_iload_n (pc := 15) F dX11_chance_15 1 rfl rfl ?_
  refine u_iconst (v := 2) (pc := 16) F dX11_chance_16 (by decide) ?_
  refine u_icmp_ge (pc := 17) F 41 dX11_chance_17 (by decide) (fun c3 => ?_) (fun c3 => ?_)
  · rw [if_neg c3] at h
    refine u_lv (lv' := [(0, .ref (adr G (11, 0, 0))), (1, .int q1.1), (2, .int q2.1)]) [2, 1, 0] rfl ?_
    exact wX11_chance_41 Y G hL σ F hY mo' hR q2.2 q1.1 q2.1 h
  · rw [if_pos c3] at h
    refine u_aload_n (pc := 20) F dX11_chance_20 2 rfl rfl ?_
    refine u_getA (pc := 21) F dX11_chance_21 (hL 11 0 0 (by decide) rfl) ck_11 fl_11_34 rfl (by decide) (by decide) ?_
    refine u_bipush (v := 10) (pc := 24) F dX11_chance_24 (by decide) ?_
    refine u_iload_n (pc := 26) F dX11_chance_26 0 rfl rfl ?_
    refine u_iadd (pc := 27) F dX11_chance_27 ?_
    obtain ⟨b22, h⟩ := d_ab_some h
    refine u_aldI1 (pc := 28) F dX11_chance_28 (hL 11 0 14 (by decide) rfl) rfl b22 ?_
    refine u_if_le (pc := 29) F 41 dX11_chance_29 (by decide) (fun c23 => ?_) (fun c23 => ?_)
    · rw [if_pos c23] at h
      refine u_lv (lv' := [(0, .ref (adr G (11, 0, 0))), (1, .int q1.1), (2, .int q2.1)]) [2, 1, 0] rfl ?_
      exact wX11_chance_41 Y G hL σ F hY mo' hR q2.2 q1.1 q2.1 h
    · rw [if_neg c23] at h
      refine u_aload_n (pc := 32) F dX11_chance_32 2 rfl rfl ?_
      refine u_iload_n (pc := 33) F dX11_chance_33 0 rfl rfl ?_
      obtain ⟨q24, hq24, h⟩ := d_bd_some h
      refine u_calli (pc := 34) F (As := [.int q2.1]) (c_X11_pressNow G hL q2.1 (upM σ 11 0 q2.2) q2.2 (upM_same _ _ _ _) q24.1 q24.2 hq24) yv_X11_pressNow ml_11_252 (hL 11 0 0 (by decide) rfl) rfl (by decide) rfl rfl (Nat.le_of_ble_eq_true rfl) dX11_chance_34 ?_
      refine u_mem (σ2 := (upM σ 11 0 q24.2)) (by first | (rw [upM_upM]; done) | (rw [upM_mid _ _ _ _ (by decide)]; done) | (rw [upM_mid _ _ _ _ (by decide), upM_upM]; done) | (rw [upM_mid _ _ _ _ (by decide), upM_mid _ _ _ _ (by decide)]; done)) ?_
      refine u_istore_n (lv' := [(3, .int q24.1), (2, .int q2.1), (1, .int q1.1), (0, .ref (adr G (11, 0, 0)))]) (pc := 37) F dX11_chance_37 rfl hY (by decide) rfl ?_
      refine u_goto (pc := 38) F 146 dX11_chance_38 (by decide) ?_
      have h1 := Option.some.inj h
      subst h1
      exact hR _ _ dX11_chance_146
/- RollingCodesModel.drift -/
def fX11_drift_47  : Nat → Grp → Int32 → Int32 → Option (Int32 × Grp)
  | 0, _, _, _ => none
  | fu + 1, mo, x1, x2 =>
    if x2 < x1 then (if (mo 0 7) ≤ 0 then (d_ab (58 : Int32) 59 <| d_ab (58 : Int32) 59 <| d_lt (wr mo 14 (58 : Int32).toNatClampNeg ((mo 14 (58 : Int32).toNatClampNeg) + (1 : Int32))) fun g12 => d_lt (x2 + (1 : Int32)) fun v13 => fX11_drift_47 fu g12 x1 v13) else (d_bd (fX11_chance mo) fun q14 => d_ab (58 : Int32) 59 <| d_ab (58 : Int32) 59 <| d_lt (wr q14 14 (58 : Int32).toNatClampNeg ((q14 14 (58 : Int32).toNatClampNeg) + (1 : Int32))) fun g17 => d_lt (x2 + (1 : Int32)) fun v18 => fX11_drift_47 fu g17 x1 v18)) else (d_ab (58 : Int32) 59 <| some (mo 14 (58 : Int32).toNatClampNeg, mo))
def fX11_drift (mo : Grp) (x1 : Int32) : Option (Int32 × Grp) :=
    d_bd (fX11_in (x1.toInt64) (1 : Int64) (60 : Int64)) fun q1 => if q1 = 0 then (some ((-1000000002 : Int32), mo)) else (if (mo 0 0) = 0 then (some ((-1000000003 : Int32), mo)) else (d_ab (58 : Int32) 59 <| if (mo 14 (58 : Int32).toNatClampNeg) ≤ (9000 : Int32) then (d_bd (fX11_remember mo) fun q6 => fX11_drift_47 1000 q6 x1 (0 : Int32)) else (some ((-1000000004 : Int32), mo))))
set_option maxHeartbeats 4000000 in
set_option maxRecDepth 100000 in
theorem wX11_drift_47 (Y : Dy) (G : G0) (hL : Im G) (σ : Mem) (F : Fx Y G cX11_drift RX11 8) (hY : Y.2.2.2.2.2.2.2.2.2.2.2.1 = 3) (r : Int32) (mo' : Grp) (hR : ∀ (pc : Nat) (lv : List (Nat × Value)), narrow .int (.int r) = .int r → decode cX11_drift pc = .ok (.ireturn, 1) → U Y G (upM σ 11 0 (mo')) pc lv [.int r]) :
    ∀ (fu : Nat) (mo : Grp) (x1 : Int32) (x2 : Int32), fX11_drift_47 fu mo x1 x2 = some (r, mo') → U Y G (upM σ 11 0 mo) 47 [(0, .ref (adr G (11, 0, 0))), (1, .int x1), (2, .int x2)] [] := by
  intro fu
  induction fu with
  | zero =>
    intro mo x1 x2 h
    rw [fX11_drift_47] at h
    cases h
  | succ fu ih =>
    intro mo x1 x2 h
    rw [fX11_drift_47] at h
    refine u_iload_n (pc := 47) F dX11_drift_47 2 rfl rfl ?_
    refine u_iload_n (pc := 48) F dX11_drift_48 1 rfl rfl ?_
    refine u_icmp_ge (pc := 49) F 80 dX11_drift_49 (by decide) (fun c7 => ?_) (fun c7 => ?_)
    · rw [if_neg c7] at h
      refine u_aload_n (pc := 80) F dX11_drift_80 0 rfl rfl ?_
      refine u_getA (pc := 81) F dX11_drift_81 (hL 11 0 0 (by decide) rfl) ck_11 fl_11_34 rfl (by decide) (by decide) ?_
      refine u_bipush (v := 58) (pc := 84) F dX11_drift_84 (by decide) ?_
      obtain ⟨b8, h⟩ := d_ab_some h
      refine u_aldI1 (pc := 86) F dX11_drift_86 (hL 11 0 14 (by decide) rfl) rfl b8 ?_
      have h1 := Option.some.inj h
      obtain ⟨hj0, hr0⟩ := Prod.mk.inj h1
      subst hj0
      subst hr0
      exact hR _ _ rfl dX11_drift_87
    · rw [if_pos c7] at h
      refine u_aload_n (pc := 52) F dX11_drift_52 0 rfl rfl ?_
      refine u_get1 (pc := 53) F dX11_drift_53 (hL 11 0 0 (by decide) rfl) ck_11 fl_11_102 rfl (by decide) ?_
      refine u_if_le (pc := 56) F 63 dX11_drift_56 (by decide) (fun c9 => ?_) (fun c9 => ?_)
      · rw [if_pos c9] at h
        refine u_aload_n (pc := 63) F dX11_drift_63 0 rfl rfl ?_
        refine u_getA (pc := 64) F dX11_drift_64 (hL 11 0 0 (by decide) rfl) ck_11 fl_11_34 rfl (by decide) (by decide) ?_
        refine u_bipush (v := 58) (pc := 67) F dX11_drift_67 (by decide) ?_
        refine u_dup2 (pc := 69) F dX11_drift_69 rfl rfl ?_
        obtain ⟨b10, h⟩ := d_ab_some h
        refine u_aldI1 (pc := 70) F dX11_drift_70 (hL 11 0 14 (by decide) rfl) rfl b10 ?_
        refine u_iconst (v := 1) (pc := 71) F dX11_drift_71 (by decide) ?_
        refine u_iadd (pc := 72) F dX11_drift_72 ?_
        obtain ⟨b11, h⟩ := d_ab_some h
        refine u_astI1 (pc := 73) F dX11_drift_73 (hL 11 0 14 (by decide) rfl) rfl b11 ?_
        obtain ⟨g12, hg12, h⟩ := d_lt_some h
        refine u_mem (σ2 := (upM σ 11 0 g12)) (by rw [hg12]) ?_
        obtain ⟨v13, hv13, h⟩ := d_lt_some h
        refine u_iinc (lv' := [(2, .int v13), (0, .ref (adr G (11, 0, 0))), (1, .int x1)]) (pc := 74) F dX11_drift_74 2 rfl hv13.symm hY (by decide) rfl ?_
        refine u_goto (pc := 77) F 47 dX11_drift_77 (by decide) ?_
        refine u_lv (lv' := [(0, .ref (adr G (11, 0, 0))), (1, .int x1), (2, .int v13)]) [1, 2, 0] rfl ?_
        exact ih g12 x1 v13 h
      · rw [if_neg c9] at h
        refine u_aload_n (pc := 59) F dX11_drift_59 0 rfl rfl ?_
        obtain ⟨q14, hq14, h⟩ := d_bd_some h
        refine u_callv (pc := 60) F (As := []) (c_X11_chance G hL (upM σ 11 0 mo) mo (upM_same _ _ _ _) q14 hq14) yv_X11_chance ml_11_272 (hL 11 0 0 (by decide) rfl) rfl (by decide) rfl rfl (Nat.le_of_ble_eq_true rfl) dX11_drift_60 ?_
        refine u_mem (σ2 := (upM σ 11 0 q14)) (by first | (rw [upM_upM]; done) | (rw [upM_mid _ _ _ _ (by decide)]; done) | (rw [upM_mid _ _ _ _ (by decide), upM_upM]; done) | (rw [upM_mid _ _ _ _ (by decide), upM_mid _ _ _ _ (by decide)]; done)) ?_
        refine u_aload_n (pc := 63) F dX11_drift_63 0 rfl rfl ?_
        refine u_getA (pc := 64) F dX11_drift_64 (hL 11 0 0 (by decide) rfl) ck_11 fl_11_34 rfl (by decide) (by decide) ?_
        refine u_bipush (v := 58) (pc := 67) F dX11_drift_67 (by decide) ?_
        refine u_dup2 (pc := 69) F dX11_drift_69 rfl rfl ?_
        obtain ⟨b15, h⟩ := d_ab_some h
        refine u_aldI1 (pc := 70) F dX11_drift_70 (hL 11 0 14 (by decide) rfl) rfl b15 ?_
        refine u_iconst (v := 1) (pc := 71) F dX11_drift_71 (by decide) ?_
        refine u_iadd (pc := 72) F dX11_drift_72 ?_
        obtain ⟨b16, h⟩ := d_ab_some h
        refine u_astI1 (pc := 73) F dX11_drift_73 (hL 11 0 14 (by decide) rfl) rfl b16 ?_
        obtain ⟨g17, hg17, h⟩ := d_lt_some h
        refine u_mem (σ2 := (upM σ 11 0 g17)) (by rw [hg17]) ?_
        obtain ⟨v18, hv18, h⟩ := d_lt_some h
        refine u_iinc (lv' := [(2, .int v18), (0, .ref (adr G (11, 0, 0))), (1, .int x1)]) (pc := 74) F dX11_drift_74 2 rfl hv18.symm hY (by decide) rfl ?_
        refine u_goto (pc := 77) F 47 dX11_drift_77 (by decide) ?_
        refine u_lv (lv' := [(0, .ref (adr G (11, 0, 0))), (1, .int x1), (2, .int v18)]) [1, 2, 0] rfl ?_
        exact ih g17 x1 v18 h
set_option maxHeartbeats 4000000 in
set_option maxRecDepth 100000 in
theorem c_X11_drift (G : G0) (hL : Im G) (x1 : Int32) (σ : Mem) (mo : Grp) (e_mo : σ 11 0 = mo) (r : Int32) (mo' : Grp) (h : fX11_drift mo x1 = some (r, mo')) :
    CI G yX11_drift cX11_drift 3 .int 8 [.ref (adr G (11, 0, 0)), .int x1] σ r (upM σ 11 0 (mo')) := by
  refine CI.of (by decide +kernel) (Nat.le_of_ble_eq_true rfl) (fun Y hY F hR => ?_)
  unfold fX11_drift at h
  have F : Fx Y G cX11_drift RX11 8 := F
  refine u_mem (σ2 := (upM σ 11 0 mo)) (by rw [← e_mo]; simp only [upM_self]) ?_
  refine u_lv (lv' := [(0, .ref (adr G (11, 0, 0))), (1, .int x1)]) [0, 1] rfl ?_
  refine u_iload_n (pc := 0) F dX11_drift_0 1 rfl rfl ?_
  refine u_i2l (pc := 1) F dX11_drift_1 ?_
  refine u_lconst (v := 1) (pc := 2) F dX11_drift_2 (by decide) ?_
  refine u_ldc2 (v := 60) (pc := 3) F dX11_drift_3 kc_11_270 ?_
  obtain ⟨q1, hq1, h⟩ := d_bd_some h
  refine u_callSi (pc := 6) F (As := [.long (x1.toInt64), .long (1 : Int64), .long (60 : Int64)]) (c_X11_in G hL (x1.toInt64) (1 : Int64) (60 : Int64) (upM σ 11 0 mo) q1 hq1) ys_X11_in ml_11_105 (by decide) rfl rfl (Nat.le_of_ble_eq_true rfl) dX11_drift_6 ?_
  refine u_if_ne (pc := 9) F 15 dX11_drift_9 (by decide) (fun c2 => ?_) (fun c2 => ?_)
  · rw [if_neg c2] at h
    refine u_aload_n (pc := 15) F dX11_drift_15 0 rfl rfl ?_
    refine u_get1 (pc := 16) F dX11_drift_16 (hL 11 0 0 (by decide) rfl) ck_11 fl_11_163 rfl (by decide) ?_
    refine u_if_ne (pc := 19) F 25 dX11_drift_19 (by decide) (fun c3 => ?_) (fun c3 => ?_)
    · rw [if_neg c3] at h
      refine u_aload_n (pc := 25) F dX11_drift_25 0 rfl rfl ?_
      refine u_getA (pc := 26) F dX11_drift_26 (hL 11 0 0 (by decide) rfl) ck_11 fl_11_34 rfl (by decide) (by decide) ?_
      refine u_bipush (v := 58) (pc := 29) F dX11_drift_29 (by decide) ?_
      obtain ⟨b4, h⟩ := d_ab_some h
      refine u_aldI1 (pc := 31) F dX11_drift_31 (hL 11 0 14 (by decide) rfl) rfl b4 ?_
      refine u_sipush (v := 9000) (pc := 32) F dX11_drift_32 (by decide) ?_
      refine u_icmp_le (pc := 35) F 41 dX11_drift_35 (by decide) (fun c5 => ?_) (fun c5 => ?_)
      · rw [if_pos c5] at h
        refine u_aload_n (pc := 41) F dX11_drift_41 0 rfl rfl ?_
        obtain ⟨q6, hq6, h⟩ := d_bd_some h
        refine u_callv (pc := 42) F (As := []) (c_X11_remember G hL (upM σ 11 0 mo) mo (upM_same _ _ _ _) q6 hq6) yv_X11_remember ml_11_249 (hL 11 0 0 (by decide) rfl) rfl (by decide) rfl rfl (Nat.le_of_ble_eq_true rfl) dX11_drift_42 ?_
        refine u_mem (σ2 := (upM σ 11 0 q6)) (by first | (rw [upM_upM]; done) | (rw [upM_mid _ _ _ _ (by decide)]; done) | (rw [upM_mid _ _ _ _ (by decide), upM_upM]; done) | (rw [upM_mid _ _ _ _ (by decide), upM_mid _ _ _ _ (by decide)]; done)) ?_
        refine u_iconst (v := 0) (pc := 45) F dX11_drift_45 (by decide) ?_
        refine u_istore_n (lv' := [(2, .int (0 : Int32)), (0, .ref (adr G (11, 0, 0))), (1, .int x1)]) (pc := 46) F dX11_drift_46 rfl hY (by decide) rfl ?_
        refine u_lv (lv' := [(0, .ref (adr G (11, 0, 0))), (1, .int x1), (2, .int (0 : Int32))]) [1, 2, 0] rfl ?_
        exact wX11_drift_47 Y G hL σ F hY r mo' hR 1000 q6 x1 (0 : Int32) h
      · rw [if_neg c5] at h
        refine u_ldc (v := -1000000004) (pc := 38) F dX11_drift_38 kc_11_115 ?_
        have h1 := Option.some.inj h
        obtain ⟨hj0, hr0⟩ := Prod.mk.inj h1
        subst hj0
        subst hr0
        exact hR _ _ rfl dX11_drift_40
    · rw [if_pos c3] at h
      refine u_ldc (v := -1000000003) (pc := 22) F dX11_drift_22 kc_11_248 ?_
      have h1 := Option.some.inj h
      obtain ⟨hj0, hr0⟩ := Prod.mk.inj h1
      subst hj0
      subst hr0
      exact hR _ _ rfl dX11_drift_24
  · rw [if_pos c2] at h
    refine u_ldc (v := -1000000002) (pc := 12) F dX11_drift_12 kc_11_111 ?_
    have h1 := Option.some.inj h
    obtain ⟨hj0, hr0⟩ := Prod.mk.inj h1
    subst hj0
    subst hr0
    exact hR _ _ rfl dX11_drift_14
/- RollingCodesModel.undo -/
def fX11_undo_22  : Nat → Grp → Int32 → Option (Int32 × Grp)
  | 0, _, _ => none
  | fu + 1, mo, x1 =>
    if x1 < (59 : Int32) then (d_ab (((59 : Int32) * (mo 0 32)) + x1) 944 <| d_ab x1 59 <| d_lt (wr mo 14 x1.toNatClampNeg (mo 34 (((59 : Int32) * (mo 0 32)) + x1).toNatClampNeg)) fun g6 => d_lt (x1 + (1 : Int32)) fun v7 => fX11_undo_22 fu g6 v7) else (some (mo 0 32, mo))
def fX11_undo (mo : Grp) : Option (Int32 × Grp) :=
    if (mo 0 32) = 0 then (some ((-1000000003 : Int32), mo)) else (d_lt (wr mo 0 32 ((mo 0 32) - (1 : Int32))) fun g2 => fX11_undo_22 1000 g2 (0 : Int32))
set_option maxHeartbeats 4000000 in
set_option maxRecDepth 100000 in
theorem wX11_undo_22 (Y : Dy) (G : G0) (hL : Im G) (σ : Mem) (F : Fx Y G cX11_undo RX11 1) (hY : Y.2.2.2.2.2.2.2.2.2.2.2.1 = 2) (r : Int32) (mo' : Grp) (hR : ∀ (pc : Nat) (lv : List (Nat × Value)), narrow .int (.int r) = .int r → decode cX11_undo pc = .ok (.ireturn, 1) → U Y G (upM σ 11 0 (mo')) pc lv [.int r]) :
    ∀ (fu : Nat) (mo : Grp) (x1 : Int32), fX11_undo_22 fu mo x1 = some (r, mo') → U Y G (upM σ 11 0 mo) 22 [(0, .ref (adr G (11, 0, 0))), (1, .int x1)] [] := by
  intro fu
  induction fu with
  | zero =>
    intro mo x1 h
    rw [fX11_undo_22] at h
    cases h
  | succ fu ih =>
    intro mo x1 h
    rw [fX11_undo_22] at h
    refine u_iload_n (pc := 22) F dX11_undo_22 1 rfl rfl ?_
    refine u_bipush (v := 59) (pc := 23) F dX11_undo_23 (by decide) ?_
    refine u_icmp_ge (pc := 25) F 54 dX11_undo_25 (by decide) (fun c3 => ?_) (fun c3 => ?_)
    · rw [if_neg c3] at h
      refine u_aload_n (pc := 54) F dX11_undo_54 0 rfl rfl ?_
      refine u_get1 (pc := 55) F dX11_undo_55 (hL 11 0 0 (by decide) rfl) ck_11 fl_11_188 rfl (by decide) ?_
      have h1 := Option.some.inj h
      obtain ⟨hj0, hr0⟩ := Prod.mk.inj h1
      subst hj0
      subst hr0
      exact hR _ _ rfl dX11_undo_58
    · rw [if_pos c3] at h
      refine u_aload_n (pc := 28) F dX11_undo_28 0 rfl rfl ?_
      refine u_getA (pc := 29) F dX11_undo_29 (hL 11 0 0 (by decide) rfl) ck_11 fl_11_34 rfl (by decide) (by decide) ?_
      refine u_iload_n (pc := 32) F dX11_undo_32 1 rfl rfl ?_
      refine u_aload_n (pc := 33) F dX11_undo_33 0 rfl rfl ?_
      refine u_getA (pc := 34) F dX11_undo_34 (hL 11 0 0 (by decide) rfl) ck_11 fl_11_71 rfl (by decide) (by decide) ?_
      refine u_bipush (v := 59) (pc := 37) F dX11_undo_37 (by decide) ?_
      refine u_aload_n (pc := 39) F dX11_undo_39 0 rfl rfl ?_
      refine u_get1 (pc := 40) F dX11_undo_40 (hL 11 0 0 (by decide) rfl) ck_11 fl_11_188 rfl (by decide) ?_
      refine u_imul (pc := 43) F dX11_undo_43 ?_
      refine u_iload_n (pc := 44) F dX11_undo_44 1 rfl rfl ?_
      refine u_iadd (pc := 45) F dX11_undo_45 ?_
      obtain ⟨b4, h⟩ := d_ab_some h
      refine u_aldI1 (pc := 46) F dX11_undo_46 (hL 11 0 34 (by decide) rfl) rfl b4 ?_
      obtain ⟨b5, h⟩ := d_ab_some h
      refine u_astI1 (pc := 47) F dX11_undo_47 (hL 11 0 14 (by decide) rfl) rfl b5 ?_
      obtain ⟨g6, hg6, h⟩ := d_lt_some h
      refine u_mem (σ2 := (upM σ 11 0 g6)) (by rw [hg6]) ?_
      obtain ⟨v7, hv7, h⟩ := d_lt_some h
      refine u_iinc (lv' := [(1, .int v7), (0, .ref (adr G (11, 0, 0)))]) (pc := 48) F dX11_undo_48 1 rfl hv7.symm hY (by decide) rfl ?_
      refine u_goto (pc := 51) F 22 dX11_undo_51 (by decide) ?_
      refine u_lv (lv' := [(0, .ref (adr G (11, 0, 0))), (1, .int v7)]) [1, 0] rfl ?_
      exact ih g6 v7 h
set_option maxHeartbeats 4000000 in
set_option maxRecDepth 100000 in
theorem c_X11_undo (G : G0) (hL : Im G) (σ : Mem) (mo : Grp) (e_mo : σ 11 0 = mo) (r : Int32) (mo' : Grp) (h : fX11_undo mo = some (r, mo')) :
    CI G yX11_undo cX11_undo 2 .int 1 [.ref (adr G (11, 0, 0))] σ r (upM σ 11 0 (mo')) := by
  refine CI.of (by decide +kernel) (Nat.le_of_ble_eq_true rfl) (fun Y hY F hR => ?_)
  unfold fX11_undo at h
  have F : Fx Y G cX11_undo RX11 1 := F
  refine u_mem (σ2 := (upM σ 11 0 mo)) (by rw [← e_mo]; simp only [upM_self]) ?_
  refine u_lv (lv' := [(0, .ref (adr G (11, 0, 0)))]) [0] rfl ?_
  refine u_aload_n (pc := 0) F dX11_undo_0 0 rfl rfl ?_
  refine u_get1 (pc := 1) F dX11_undo_1 (hL 11 0 0 (by decide) rfl) ck_11 fl_11_188 rfl (by decide) ?_
  refine u_if_ne (pc := 4) F 10 dX11_undo_4 (by decide) (fun c1 => ?_) (fun c1 => ?_)
  · rw [if_neg c1] at h
    refine u_aload_n (pc := 10) F dX11_undo_10 0 rfl rfl ?_
    refine u_dup (pc := 11) F dX11_undo_11 rfl ?_
    refine u_get1 (pc := 12) F dX11_undo_12 (hL 11 0 0 (by decide) rfl) ck_11 fl_11_188 rfl (by decide) ?_
    refine u_iconst (v := 1) (pc := 15) F dX11_undo_15 (by decide) ?_
    refine u_isub (pc := 16) F dX11_undo_16 ?_
    refine u_put1 (pc := 17) F dX11_undo_17 (hL 11 0 0 (by decide) rfl) ck_11 fl_11_188 rfl (by decide) rfl (ty0 := .int) (by decide +kernel) rfl rfl ?_
    obtain ⟨g2, hg2, h⟩ := d_lt_some h
    refine u_mem (σ2 := (upM σ 11 0 g2)) (by rw [hg2]) ?_
    refine u_iconst (v := 0) (pc := 20) F dX11_undo_20 (by decide) ?_
    refine u_istore_n (lv' := [(1, .int (0 : Int32)), (0, .ref (adr G (11, 0, 0)))]) (pc := 21) F dX11_undo_21 rfl hY (by decide) rfl ?_
    refine u_lv (lv' := [(0, .ref (adr G (11, 0, 0))), (1, .int (0 : Int32))]) [1, 0] rfl ?_
    exact wX11_undo_22 Y G hL σ F hY r mo' hR 1000 g2 (0 : Int32) h
  · rw [if_pos c1] at h
    refine u_ldc (v := -1000000003) (pc := 7) F dX11_undo_7 kc_11_248 ?_
    have h1 := Option.some.inj h
    obtain ⟨hj0, hr0⟩ := Prod.mk.inj h1
    subst hj0
    subst hr0
    exact hR _ _ rfl dX11_undo_9
/- RollingCodesModel.wouldOpen -/
def fX11_wouldOpen_45  (mo : Grp) (s1 : Int32) (s2 : Int32) : Option (Int32 × Grp) :=
    d_bd (fX11_opensFrom mo s1 s2) fun q6 => some (q6.1, q6.2)
def fX11_wouldOpen (mo : Grp) (x1 : Int32) (x2 : Int32) : Option (Int32 × Grp) :=
    d_bd (fX11_isFob mo x1) fun q1 => if q1 = 0 then (some ((-1000000001 : Int32), mo)) else (d_bd (fX11_in (x2.toInt64) (-1 : Int64) (9 : Int64)) fun q3 => if q3 = 0 then (some ((-1000000002 : Int32), mo)) else (if x2 = (-1 : Int32) then (d_ab x1 59 <| fX11_wouldOpen_45 mo x1 (mo 14 x1.toNatClampNeg)) else (fX11_wouldOpen_45 mo x1 x2)))
set_option maxHeartbeats 4000000 in
set_option maxRecDepth 100000 in
theorem wX11_wouldOpen_45 (Y : Dy) (G : G0) (hL : Im G) (σ : Mem) (F : Fx Y G cX11_wouldOpen RX11 8) (hY : Y.2.2.2.2.2.2.2.2.2.2.2.1 = 3) (r : Int32) (mo' : Grp) (hR : ∀ (pc : Nat) (lv : List (Nat × Value)), narrow .int (.int r) = .int r → decode cX11_wouldOpen pc = .ok (.ireturn, 1) → U Y G (upM σ 11 0 (mo')) pc lv [.int r]) :
    ∀ (mo : Grp) (s1 : Int32) (s2 : Int32), fX11_wouldOpen_45 mo s1 s2 = some (r, mo') → U Y G (upM σ 11 0 mo) 45 [] [.int s2, .int s1, .ref (adr G (11, 0, 0))] := by
  intro mo s1 s2 h
  unfold fX11_wouldOpen_45 at h
  obtain ⟨q6, hq6, h⟩ := d_bd_some h
  refine u_calli (pc := 45) F (As := [.int s1, .int s2]) (c_X11_opensFrom G hL s1 s2 (upM σ 11 0 mo) mo (upM_same _ _ _ _) q6.1 q6.2 hq6) yv_X11_opensFrom ml_11_283 (hL 11 0 0 (by decide) rfl) rfl (by decide) rfl rfl (Nat.le_of_ble_eq_true rfl) dX11_wouldOpen_45 ?_
  refine u_mem (σ2 := (upM σ 11 0 q6.2)) (by first | (rw [upM_upM]; done) | (rw [upM_mid _ _ _ _ (by decide)]; done) | (rw [upM_mid _ _ _ _ (by decide), upM_upM]; done) | (rw [upM_mid _ _ _ _ (by decide), upM_mid _ _ _ _ (by decide)]; done)) ?_
  have h1 := Option.some.inj h
  obtain ⟨hj0, hr0⟩ := Prod.mk.inj h1
  subst hj0
  subst hr0
  exact hR _ _ rfl dX11_wouldOpen_48
set_option maxHeartbeats 4000000 in
set_option maxRecDepth 100000 in
theorem c_X11_wouldOpen (G : G0) (hL : Im G) (x1 : Int32) (x2 : Int32) (σ : Mem) (mo : Grp) (e_mo : σ 11 0 = mo) (r : Int32) (mo' : Grp) (h : fX11_wouldOpen mo x1 x2 = some (r, mo')) :
    CI G yX11_wouldOpen cX11_wouldOpen 3 .int 8 [.ref (adr G (11, 0, 0)), .int x1, .int x2] σ r (upM σ 11 0 (mo')) := by
  refine CI.of (by decide +kernel) (Nat.le_of_ble_eq_true rfl) (fun Y hY F hR => ?_)
  unfold fX11_wouldOpen at h
  have F : Fx Y G cX11_wouldOpen RX11 8 := F
  refine u_mem (σ2 := (upM σ 11 0 mo)) (by rw [← e_mo]; simp only [upM_self]) ?_
  refine u_lv (lv' := [(0, .ref (adr G (11, 0, 0))), (1, .int x1), (2, .int x2)]) [0, 1, 2] rfl ?_
  refine u_aload_n (pc := 0) F dX11_wouldOpen_0 0 rfl rfl ?_
  refine u_iload_n (pc := 1) F dX11_wouldOpen_1 1 rfl rfl ?_
  obtain ⟨q1, hq1, h⟩ := d_bd_some h
  refine u_calli (pc := 2) F (As := [.int x1]) (c_X11_isFob G hL x1 (upM σ 11 0 mo) mo (upM_same _ _ _ _) q1 hq1) yv_X11_isFob ml_11_233 (hL 11 0 0 (by decide) rfl) rfl (by decide) rfl rfl (Nat.le_of_ble_eq_true rfl) dX11_wouldOpen_2 ?_
  refine u_if_ne (pc := 5) F 11 dX11_wouldOpen_5 (by decide) (fun c2 => ?_) (fun c2 => ?_)
  · rw [if_neg c2] at h
    refine u_iload_n (pc := 11) F dX11_wouldOpen_11 2 rfl rfl ?_
    refine u_i2l (pc := 12) F dX11_wouldOpen_12 ?_
    refine u_ldc2 (v := -1) (pc := 13) F dX11_wouldOpen_13 kc_11_281 ?_
    refine u_ldc2 (v := 9) (pc := 16) F dX11_wouldOpen_16 kc_11_255 ?_
    obtain ⟨q3, hq3, h⟩ := d_bd_some h
    refine u_callSi (pc := 19) F (As := [.long (x2.toInt64), .long (-1 : Int64), .long (9 : Int64)]) (c_X11_in G hL (x2.toInt64) (-1 : Int64) (9 : Int64) (upM σ 11 0 mo) q3 hq3) ys_X11_in ml_11_105 (by decide) rfl rfl (Nat.le_of_ble_eq_true rfl) dX11_wouldOpen_19 ?_
    refine u_if_ne (pc := 22) F 28 dX11_wouldOpen_22 (by decide) (fun c4 => ?_) (fun c4 => ?_)
    · rw [if_neg c4] at h
      refine u_aload_n (pc := 28) F dX11_wouldOpen_28 0 rfl rfl ?_
      refine u_iload_n (pc := 29) F dX11_wouldOpen_29 1 rfl rfl ?_
      refine u_iload_n (pc := 30) F dX11_wouldOpen_30 2 rfl rfl ?_
      refine u_iconst (v := -1) (pc := 31) F dX11_wouldOpen_31 (by decide) ?_
      refine u_icmp_ne (pc := 32) F 44 dX11_wouldOpen_32 (by decide) (fun c5 => ?_) (fun c5 => ?_)
      · rw [if_neg c5] at h
        refine u_iload_n (pc := 44) F dX11_wouldOpen_44 2 rfl rfl ?_
        refine u_lv (lv' := []) [] rfl ?_
        exact wX11_wouldOpen_45 Y G hL σ F hY r mo' hR mo x1 x2 h
      · rw [if_pos c5] at h
        refine u_aload_n (pc := 35) F dX11_wouldOpen_35 0 rfl rfl ?_
        refine u_getA (pc := 36) F dX11_wouldOpen_36 (hL 11 0 0 (by decide) rfl) ck_11 fl_11_34 rfl (by decide) (by decide) ?_
        refine u_iload_n (pc := 39) F dX11_wouldOpen_39 1 rfl rfl ?_
        obtain ⟨b7, h⟩ := d_ab_some h
        refine u_aldI1 (pc := 40) F dX11_wouldOpen_40 (hL 11 0 14 (by decide) rfl) rfl b7 ?_
        refine u_goto (pc := 41) F 45 dX11_wouldOpen_41 (by decide) ?_
        refine u_lv (lv' := []) [] rfl ?_
        exact wX11_wouldOpen_45 Y G hL σ F hY r mo' hR mo x1 (mo 14 x1.toNatClampNeg) h
    · rw [if_pos c4] at h
      refine u_ldc (v := -1000000002) (pc := 25) F dX11_wouldOpen_25 kc_11_111 ?_
      have h1 := Option.some.inj h
      obtain ⟨hj0, hr0⟩ := Prod.mk.inj h1
      subst hj0
      subst hr0
      exact hR _ _ rfl dX11_wouldOpen_27
  · rw [if_pos c2] at h
    refine u_ldc (v := -1000000001) (pc := 8) F dX11_wouldOpen_8 kc_11_237 ?_
    have h1 := Option.some.inj h
    obtain ⟨hj0, hr0⟩ := Prod.mk.inj h1
    subst hj0
    subst hr0
    exact hR _ _ rfl dX11_wouldOpen_10
/- RollingCodesModel.ahead -/
def fX11_ahead (mo : Grp) (x1 : Int32) (x2 : Int32) : Option (Int32) :=
    d_bd (fX11_isGate mo x1) fun q1 => if q1 = 0 then (some (-1000000001 : Int32)) else (d_bd (fX11_isFob mo x2) fun q3 => if q3 = 0 then (some (-1000000001 : Int32)) else (d_bd (fX11_aheadOf mo x1 x2) fun q5 => some q5))
set_option maxHeartbeats 4000000 in
set_option maxRecDepth 100000 in
theorem c_X11_ahead (G : G0) (hL : Im G) (x1 : Int32) (x2 : Int32) (σ : Mem) (mo : Grp) (e_mo : σ 11 0 = mo) (r : Int32) (h : fX11_ahead mo x1 x2 = some r) :
    CI G yX11_ahead cX11_ahead 3 .int 3 [.ref (adr G (11, 0, 0)), .int x1, .int x2] σ r σ := by
  refine CI.of (by decide +kernel) (Nat.le_of_ble_eq_true rfl) (fun Y hY F hR => ?_)
  unfold fX11_ahead at h
  have F : Fx Y G cX11_ahead RX11 3 := F
  refine u_lv (lv' := [(0, .ref (adr G (11, 0, 0))), (1, .int x1), (2, .int x2)]) [0, 1, 2] rfl ?_
  refine u_aload_n (pc := 0) F dX11_ahead_0 0 rfl rfl ?_
  refine u_iload_n (pc := 1) F dX11_ahead_1 1 rfl rfl ?_
  obtain ⟨q1, hq1, h⟩ := d_bd_some h
  refine u_calli (pc := 2) F (As := [.int x1]) (c_X11_isGate G hL x1 σ mo ((show σ 11 0 = mo from e_mo)) q1 hq1) yv_X11_isGate ml_11_242 (hL 11 0 0 (by decide) rfl) rfl (by decide) rfl rfl (Nat.le_of_ble_eq_true rfl) dX11_ahead_2 ?_
  refine u_if_eq (pc := 5) F 25 dX11_ahead_5 (by decide) (fun c2 => ?_) (fun c2 => ?_)
  · rw [if_pos c2] at h
    refine u_ldc (v := -1000000001) (pc := 25) F dX11_ahead_25 kc_11_237 ?_
    have h1 := Option.some.inj h
    subst h1
    exact hR _ _ rfl dX11_ahead_27
  · rw [if_neg c2] at h
    refine u_aload_n (pc := 8) F dX11_ahead_8 0 rfl rfl ?_
    refine u_iload_n (pc := 9) F dX11_ahead_9 2 rfl rfl ?_
    obtain ⟨q3, hq3, h⟩ := d_bd_some h
    refine u_calli (pc := 10) F (As := [.int x2]) (c_X11_isFob G hL x2 σ mo ((show σ 11 0 = mo from e_mo)) q3 hq3) yv_X11_isFob ml_11_233 (hL 11 0 0 (by decide) rfl) rfl (by decide) rfl rfl (Nat.le_of_ble_eq_true rfl) dX11_ahead_10 ?_
    refine u_if_eq (pc := 13) F 25 dX11_ahead_13 (by decide) (fun c4 => ?_) (fun c4 => ?_)
    · rw [if_pos c4] at h
      refine u_ldc (v := -1000000001) (pc := 25) F dX11_ahead_25 kc_11_237 ?_
      have h1 := Option.some.inj h
      subst h1
      exact hR _ _ rfl dX11_ahead_27
    · rw [if_neg c4] at h
      refine u_aload_n (pc := 16) F dX11_ahead_16 0 rfl rfl ?_
      refine u_iload_n (pc := 17) F dX11_ahead_17 1 rfl rfl ?_
      refine u_iload_n (pc := 18) F dX11_ahead_18 2 rfl rfl ?_
      obtain ⟨q5, hq5, h⟩ := d_bd_some h
      refine u_calli (pc := 19) F (As := [.int x1, .int x2]) (c_X11_aheadOf G hL x1 x2 σ mo ((show σ 11 0 = mo from e_mo)) q5 hq5) yv_X11_aheadOf ml_11_289 (hL 11 0 0 (by decide) rfl) rfl (by decide) rfl rfl (Nat.le_of_ble_eq_true rfl) dX11_ahead_19 ?_
      refine u_goto (pc := 22) F 27 dX11_ahead_22 (by decide) ?_
      have h1 := Option.some.inj h
      subst h1
      exact hR _ _ rfl dX11_ahead_27
/- RollingCodesModel.opensNextTo -/
def fX11_opensNextTo_72  (mo : Grp)  : Option (Int32 × Grp) :=
    some ((1 : Int32), mo)
def fX11_opensNextTo (mo : Grp) (x1 : Int32) (x2 : Int32) : Option (Int32 × Grp) :=
    d_bd (fX11_stepOn mo x2) fun q1 => d_ab x2 5 <| d_ab ((5 : Int32) + x2) 59 <| d_bd (fX11_codeOf (q1 12 x2.toNatClampNeg) (q1 14 ((5 : Int32) + x2).toNatClampNeg)) fun q4 => d_bd (fX11_hears q1 x1 q4) fun q5 => d_ab x2 5 <| if (q5.2 9 x2.toNatClampNeg) = (1 : Int32) then (d_bd (fX11_stepOn q5.2 x2) fun q9 => d_ab x2 5 <| d_ab ((5 : Int32) + x2) 59 <| d_bd (fX11_codeOf (q9 12 x2.toNatClampNeg) (q9 14 ((5 : Int32) + x2).toNatClampNeg)) fun q12 => d_bd (fX11_hears q9 x1 q12) fun q13 => if q13.1 = 0 then (if q5.1 = 0 then (some ((0 : Int32), q13.2)) else (fX11_opensNextTo_72 q13.2)) else (fX11_opensNextTo_72 q13.2)) else (d_zb q5.1 <| some (q5.1, q5.2))
set_option maxHeartbeats 4000000 in
set_option maxRecDepth 100000 in
theorem wX11_opensNextTo_72 (Y : Dy) (G : G0) (hL : Im G) (σ : Mem) (F : Fx Y G cX11_opensNextTo RX11 4) (hY : Y.2.2.2.2.2.2.2.2.2.2.2.1 = 4) (r : Int32) (mo' : Grp) (hR : ∀ (pc : Nat) (lv : List (Nat × Value)), narrow .boolean (.int r) = .int r → decode cX11_opensNextTo pc = .ok (.ireturn, 1) → U Y G (upM σ 11 0 (mo')) pc lv [.int r]) :
    ∀ (mo : Grp), fX11_opensNextTo_72 mo = some (r, mo') → U Y G (upM σ 11 0 mo) 72 [] [] := by
  intro mo h
  unfold fX11_opensNextTo_72 at h
  refine u_iconst (v := 1) (pc := 72) F dX11_opensNextTo_72 (by decide) ?_
  refine u_goto (pc := 73) F 77 dX11_opensNextTo_73 (by decide) ?_
  refine u_istore_n (lv' := [(3, .int (1 : Int32))]) (pc := 77) F dX11_opensNextTo_77 rfl hY (by decide) rfl ?_
  refine u_iload_n (pc := 78) F dX11_opensNextTo_78 0 rfl rfl ?_
  have h1 := Option.some.inj h
  obtain ⟨hj0, hr0⟩ := Prod.mk.inj h1
  subst hj0
  subst hr0
  exact hR _ _ rfl dX11_opensNextTo_79
set_option maxHeartbeats 4000000 in
set_option maxRecDepth 100000 in
theorem c_X11_opensNextTo (G : G0) (hL : Im G) (x1 : Int32) (x2 : Int32) (σ : Mem) (mo : Grp) (e_mo : σ 11 0 = mo) (r : Int32) (mo' : Grp) (h : fX11_opensNextTo mo x1 x2 = some (r, mo')) :
    CI G yX11_opensNextTo cX11_opensNextTo 4 .boolean 4 [.ref (adr G (11, 0, 0)), .int x1, .int x2] σ r (upM σ 11 0 (mo')) := by
  refine CI.of (by decide +kernel) (Nat.le_of_ble_eq_true rfl) (fun Y hY F hR => ?_)
  unfold fX11_opensNextTo at h
  have F : Fx Y G cX11_opensNextTo RX11 4 := F
  refine u_mem (σ2 := (upM σ 11 0 mo)) (by rw [← e_mo]; simp only [upM_self]) ?_
  refine u_lv (lv' := [(0, .ref (adr G (11, 0, 0))), (1, .int x1), (2, .int x2)]) [0, 1, 2] rfl ?_
  refine u_aload_n (pc := 0) F dX11_opensNextTo_0 0 rfl rfl ?_
  refine u_iload_n (pc := 1) F dX11_opensNextTo_1 2 rfl rfl ?_
  obtain ⟨q1, hq1, h⟩ := d_bd_some h
  refine u_callv (pc := 2) F (As := [.int x2]) (c_X11_stepOn G hL x2 (upM σ 11 0 mo) mo (upM_same _ _ _ _) q1 hq1) yv_X11_stepOn ml_11_224 (hL 11 0 0 (by decide) rfl) rfl (by decide) rfl rfl (Nat.le_of_ble_eq_true rfl) dX11_opensNextTo_2 ?_
  refine u_mem (σ2 := (upM σ 11 0 q1)) (by first | (rw [upM_upM]; done) | (rw [upM_mid _ _ _ _ (by decide)]; done) | (rw [upM_mid _ _ _ _ (by decide), upM_upM]; done) | (rw [upM_mid _ _ _ _ (by decide), upM_mid _ _ _ _ (by decide)]; done)) ?_
  refine u_aload_n (pc := 5) F dX11_opensNextTo_5 0 rfl rfl ?_
  refine u_iload_n (pc := 6) F dX11_opensNextTo_6 1 rfl rfl ?_
  refine u_aload_n (pc := 7) F dX11_opensNextTo_7 0 rfl rfl ?_
  refine u_getA (pc := 8) F dX11_opensNextTo_8 (hL 11 0 0 (by decide) rfl) ck_11 fl_11_28 rfl (by decide) (by decide) ?_
  refine u_iload_n (pc := 11) F dX11_opensNextTo_11 2 rfl rfl ?_
  obtain ⟨b2, h⟩ := d_ab_some h
  refine u_aldI1 (pc := 12) F dX11_opensNextTo_12 (hL 11 0 12 (by decide) rfl) rfl b2 ?_
  refine u_aload_n (pc := 13) F dX11_opensNextTo_13 0 rfl rfl ?_
  refine u_getA (pc := 14) F dX11_opensNextTo_14 (hL 11 0 0 (by decide) rfl) ck_11 fl_11_34 rfl (by decide) (by decide) ?_
  refine u_iconst (v := 5) (pc := 17) F dX11_opensNextTo_17 (by decide) ?_
  refine u_iload_n (pc := 18) F dX11_opensNextTo_18 2 rfl rfl ?_
  refine u_iadd (pc := 19) F dX11_opensNextTo_19 ?_
  obtain ⟨b3, h⟩ := d_ab_some h
  refine u_aldI1 (pc := 20) F dX11_opensNextTo_20 (hL 11 0 14 (by decide) rfl) rfl b3 ?_
  obtain ⟨q4, hq4, h⟩ := d_bd_some h
  refine u_callSi (pc := 21) F (As := [.int (q1 12 x2.toNatClampNeg), .int (q1 14 ((5 : Int32) + x2).toNatClampNeg)]) (c_X11_codeOf G hL (q1 12 x2.toNatClampNeg) (q1 14 ((5 : Int32) + x2).toNatClampNeg) (upM σ 11 0 q1) q4 hq4) ys_X11_codeOf ml_11_193 (by decide) rfl rfl (Nat.le_of_ble_eq_true rfl) dX11_opensNextTo_21 ?_
  obtain ⟨q5, hq5, h⟩ := d_bd_some h
  refine u_calli (pc := 24) F (As := [.int x1, .int q4]) (c_X11_hears G hL x1 q4 (upM σ 11 0 q1) q1 (upM_same _ _ _ _) q5.1 q5.2 hq5) yv_X11_hears ml_11_214 (hL 11 0 0 (by decide) rfl) rfl (by decide) rfl rfl (Nat.le_of_ble_eq_true rfl) dX11_opensNextTo_24 ?_
  refine u_mem (σ2 := (upM σ 11 0 q5.2)) (by first | (rw [upM_upM]; done) | (rw [upM_mid _ _ _ _ (by decide)]; done) | (rw [upM_mid _ _ _ _ (by decide), upM_upM]; done) | (rw [upM_mid _ _ _ _ (by decide), upM_mid _ _ _ _ (by decide)]; done)) ?_
  refine u_istore_n (lv' := [(3, .int q5.1), (0, .ref (adr G (11, 0, 0))), (1, .int x1), (2, .int x2)]) (pc := 27) F dX11_opensNextTo_27 rfl hY (by decide) rfl ?_
  refine u_aload_n (pc := 28) F dX11_opensNextTo_28 1 rfl rfl ?_
  refine u_getA (pc := 29) F dX11_opensNextTo_29 (hL 11 0 0 (by decide) rfl) ck_11 fl_11_19 rfl (by decide) (by decide) ?_
  refine u_iload_n (pc := 32) F dX11_opensNextTo_32 3 rfl rfl ?_
  obtain ⟨b6, h⟩ := d_ab_some h
  refine u_aldI1 (pc := 33) F dX11_opensNextTo_33 (hL 11 0 9 (by decide) rfl) rfl b6 ?_
  refine u_iconst (v := 1) (pc := 34) F dX11_opensNextTo_34 (by decide) ?_
  refine u_icmp_ne (pc := 35) F 78 dX11_opensNextTo_35 (by decide) (fun c7 => ?_) (fun c7 => ?_)
  · rw [if_neg c7] at h
    refine u_iload_n (pc := 78) F dX11_opensNextTo_78 0 rfl rfl ?_
    obtain ⟨c8, h⟩ := d_zb_some h
    have h1 := Option.some.inj h
    obtain ⟨hj0, hr0⟩ := Prod.mk.inj h1
    subst hj0
    subst hr0
    exact hR _ _ (nar_zb c8) dX11_opensNextTo_79
  · rw [if_pos c7] at h
    refine u_aload_n (pc := 38) F dX11_opensNextTo_38 1 rfl rfl ?_
    refine u_iload_n (pc := 39) F dX11_opensNextTo_39 3 rfl rfl ?_
    obtain ⟨q9, hq9, h⟩ := d_bd_some h
    refine u_callv (pc := 40) F (As := [.int x2]) (c_X11_stepOn G hL x2 (upM σ 11 0 q5.2) q5.2 (upM_same _ _ _ _) q9 hq9) yv_X11_stepOn ml_11_224 (hL 11 0 0 (by decide) rfl) rfl (by decide) rfl rfl (Nat.le_of_ble_eq_true rfl) dX11_opensNextTo_40 ?_
    refine u_mem (σ2 := (upM σ 11 0 q9)) (by first | (rw [upM_upM]; done) | (rw [upM_mid _ _ _ _ (by decide)]; done) | (rw [upM_mid _ _ _ _ (by decide), upM_upM]; done) | (rw [upM_mid _ _ _ _ (by decide), upM_mid _ _ _ _ (by decide)]; done)) ?_
    refine u_aload_n (pc := 43) F dX11_opensNextTo_43 1 rfl rfl ?_
    refine u_iload_n (pc := 44) F dX11_opensNextTo_44 2 rfl rfl ?_
    refine u_aload_n (pc := 45) F dX11_opensNextTo_45 1 rfl rfl ?_
    refine u_getA (pc := 46) F dX11_opensNextTo_46 (hL 11 0 0 (by decide) rfl) ck_11 fl_11_28 rfl (by decide) (by decide) ?_
    refine u_iload_n (pc := 49) F dX11_opensNextTo_49 3 rfl rfl ?_
    obtain ⟨b10, h⟩ := d_ab_some h
    refine u_aldI1 (pc := 50) F dX11_opensNextTo_50 (hL 11 0 12 (by decide) rfl) rfl b10 ?_
    refine u_aload_n (pc := 51) F dX11_opensNextTo_51 1 rfl rfl ?_
    refine u_getA (pc := 52) F dX11_opensNextTo_52 (hL 11 0 0 (by decide) rfl) ck_11 fl_11_34 rfl (by decide) (by decide) ?_
    refine u_iconst (v := 5) (pc := 55) F dX11_opensNextTo_55 (by decide) ?_
    refine u_iload_n (pc := 56) F dX11_opensNextTo_56 3 rfl rfl ?_
    refine u_iadd (pc := 57) F dX11_opensNextTo_57 ?_
    obtain ⟨b11, h⟩ := d_ab_some h
    refine u_aldI1 (pc := 58) F dX11_opensNextTo_58 (hL 11 0 14 (by decide) rfl) rfl b11 ?_
    obtain ⟨q12, hq12, h⟩ := d_bd_some h
    refine u_callSi (pc := 59) F (As := [.int (q9 12 x2.toNatClampNeg), .int (q9 14 ((5 : Int32) + x2).toNatClampNeg)]) (c_X11_codeOf G hL (q9 12 x2.toNatClampNeg) (q9 14 ((5 : Int32) + x2).toNatClampNeg) (upM σ 11 0 q9) q12 hq12) ys_X11_codeOf ml_11_193 (by decide) rfl rfl (Nat.le_of_ble_eq_true rfl) dX11_opensNextTo_59 ?_
    obtain ⟨q13, hq13, h⟩ := d_bd_some h
    refine u_calli (pc := 62) F (As := [.int x1, .int q12]) (c_X11_hears G hL x1 q12 (upM σ 11 0 q9) q9 (upM_same _ _ _ _) q13.1 q13.2 hq13) yv_X11_hears ml_11_214 (hL 11 0 0 (by decide) rfl) rfl (by decide) rfl rfl (Nat.le_of_ble_eq_true rfl) dX11_opensNextTo_62 ?_
    refine u_mem (σ2 := (upM σ 11 0 q13.2)) (by first | (rw [upM_upM]; done) | (rw [upM_mid _ _ _ _ (by decide)]; done) | (rw [upM_mid _ _ _ _ (by decide), upM_upM]; done) | (rw [upM_mid _ _ _ _ (by decide), upM_mid _ _ _ _ (by decide)]; done)) ?_
    refine u_if_ne (pc := 65) F 72 dX11_opensNextTo_65 (by decide) (fun c14 => ?_) (fun c14 => ?_)
    · rw [if_neg c14] at h
      refine u_lv (lv' := []) [] rfl ?_
      exact wX11_opensNextTo_72 Y G hL σ F hY r mo' hR q13.2 h
    · rw [if_pos c14] at h
      refine u_iload_n (pc := 68) F dX11_opensNextTo_68 0 rfl rfl ?_
      refine u_if_eq (pc := 69) F 76 dX11_opensNextTo_69 (by decide) (fun c15 => ?_) (fun c15 => ?_)
      · rw [if_pos c15] at h
        refine u_iconst (v := 0) (pc := 76) F dX11_opensNextTo_76 (by decide) ?_
        refine u_istore_n (lv' := [(3, .int (0 : Int32)), (0, .ref (adr G (11, 0, 0))), (1, .int x1), (2, .int x2)]) (pc := 77) F dX11_opensNextTo_77 rfl hY (by decide) rfl ?_
        refine u_iload_n (pc := 78) F dX11_opensNextTo_78 0 rfl rfl ?_
        have h1 := Option.some.inj h
        obtain ⟨hj0, hr0⟩ := Prod.mk.inj h1
        subst hj0
        subst hr0
        exact hR _ _ rfl dX11_opensNextTo_79
      · rw [if_neg c15] at h
        refine u_lv (lv' := []) [] rfl ?_
        exact wX11_opensNextTo_72 Y G hL σ F hY r mo' hR q13.2 h
/- RollingCodesModel.locked -/
def fX11_locked_42  : Nat → Grp → Int32 → Int32 → Int32 → Int32 → Option (Int32 × Int32 × Int32 × Grp)
  | 0, _, _, _, _, _ => none
  | fu + 1, mo, x1, x2, x4, x5 =>
    if x5 < x4 then (d_bd (fX11_stepOn mo x2) fun q9 => d_ab x2 5 <| if (q9 9 x2.toNatClampNeg) = (1 : Int32) then (d_ab ((5 : Int32) + x2) 59 <| d_ab ((5 : Int32) + x2) 59 <| d_lt (wr q9 14 ((5 : Int32) + x2).toNatClampNeg (jrem ((q9 14 ((5 : Int32) + x2).toNatClampNeg) + (1 : Int32)) (10000 : Int32))) fun g18 => d_lt (x5 + (1 : Int32)) fun v19 => fX11_locked_42 fu g18 x1 x2 x4 v19) else (d_ab ((5 : Int32) + x2) 59 <| d_ab ((5 : Int32) + x2) 59 <| d_lt (wr q9 14 ((5 : Int32) + x2).toNatClampNeg (q9 14 ((5 : Int32) + x2).toNatClampNeg)) fun g14 => d_lt (x5 + (1 : Int32)) fun v15 => fX11_locked_42 fu g14 x1 x2 x4 v15)) else (some (x1, x2, x4, mo))
def fX11_locked_28  : Nat → Grp → Int32 → Int32 → Int32 → Int32 → Option (Int32 × Grp)
  | 0, _, _, _, _, _ => none
  | fu + 1, mo, x1, x2, x3, x4 =>
    if x4 ≤ (60 : Int32) then (if x3 < 0 then (d_bd (fX11_locked_42 1000 mo x1 x2 x4 (0 : Int32)) fun q20 => d_bd (fX11_opensNextTo (q20.2.2.2) q20.1 (q20.2.1)) fun q21 => d_lt (if q21.1 = 0 then q20.2.2.1 else (-1 : Int32)) fun v22 => d_bd (fX11_putBack q21.2) fun q24 => d_lt ((q20.2.2.1) + (1 : Int32)) fun v25 => fX11_locked_28 fu q24 q20.1 (q20.2.1) v22 v25) else (some (x3, mo))) else (some (x3, mo))
def fX11_locked (mo : Grp) (x1 : Int32) (x2 : Int32) : Option (Int32 × Grp) :=
    d_bd (fX11_isGate mo x1) fun q1 => if q1 = 0 then (some ((-1000000001 : Int32), mo)) else (d_bd (fX11_isFob mo x2) fun q3 => if q3 = 0 then (some ((-1000000001 : Int32), mo)) else (d_bd (fX11_keepNow mo) fun q5 => fX11_locked_28 1000 q5 x1 x2 (-1 : Int32) (0 : Int32)))
set_option maxHeartbeats 4000000 in
set_option maxRecDepth 100000 in
theorem wX11_locked_42 (Y : Dy) (G : G0) (hL : Im G) (σ : Mem) (F : Fx Y G cX11_locked RX11 5) (hY : Y.2.2.2.2.2.2.2.2.2.2.2.1 = 6) :
    ∀ (fu : Nat) (mo : Grp) (x1 : Int32) (x2 : Int32) (x4 : Int32) (x5 : Int32) (z1 : Int32) (z2 : Int32) (z4 : Int32) (z_mo : Grp), fX11_locked_42 fu mo x1 x2 x4 x5 = some (z1, z2, z4, z_mo) → U Y G (upM σ 11 0 z_mo) 103 [(0, .ref (adr G (11, 0, 0))), (1, .int z1), (2, .int z2), (4, .int z4)] [] → U Y G (upM σ 11 0 mo) 42 [(0, .ref (adr G (11, 0, 0))), (1, .int x1), (2, .int x2), (4, .int x4), (5, .int x5)] [] := by
  intro fu
  induction fu with
  | zero =>
    intro mo x1 x2 x4 x5 z1 z2 z4 z_mo h hK
    rw [fX11_locked_42] at h
    cases h
  | succ fu ih =>
    intro mo x1 x2 x4 x5 z1 z2 z4 z_mo h hK
    rw [fX11_locked_42] at h
    refine u_iload (pc := 42) F dX11_locked_42 4 rfl ?_
    refine u_iload (pc := 44) F dX11_locked_44 3 rfl ?_
    refine u_icmp_ge (pc := 46) F 103 dX11_locked_46 (by decide) (fun c8 => ?_) (fun c8 => ?_)
    · rw [if_neg c8] at h
      have h1 := Option.some.inj h
      obtain ⟨hj0, hr0⟩ := Prod.mk.inj h1
      obtain ⟨hj1, hr1⟩ := Prod.mk.inj hr0
      obtain ⟨hj2, hr2⟩ := Prod.mk.inj hr1
      subst hj0
      subst hj1
      subst hj2
      subst hr2
      refine u_lv [0, 1, 2, 3] rfl ?_
      exact hK
    · rw [if_pos c8] at h
      refine u_aload_n (pc := 49) F dX11_locked_49 0 rfl rfl ?_
      refine u_iload_n (pc := 50) F dX11_locked_50 2 rfl rfl ?_
      obtain ⟨q9, hq9, h⟩ := d_bd_some h
      refine u_callv (pc := 51) F (As := [.int x2]) (c_X11_stepOn G hL x2 (upM σ 11 0 mo) mo (upM_same _ _ _ _) q9 hq9) yv_X11_stepOn ml_11_224 (hL 11 0 0 (by decide) rfl) rfl (by decide) rfl rfl (Nat.le_of_ble_eq_true rfl) dX11_locked_51 ?_
      refine u_mem (σ2 := (upM σ 11 0 q9)) (by first | (rw [upM_upM]; done) | (rw [upM_mid _ _ _ _ (by decide)]; done) | (rw [upM_mid _ _ _ _ (by decide), upM_upM]; done) | (rw [upM_mid _ _ _ _ (by decide), upM_mid _ _ _ _ (by decide)]; done)) ?_
      refine u_aload_n (pc := 54) F dX11_locked_54 0 rfl rfl ?_
      refine u_getA (pc := 55) F dX11_locked_55 (hL 11 0 0 (by decide) rfl) ck_11 fl_11_34 rfl (by decide) (by decide) ?_
      refine u_iconst (v := 5) (pc := 58) F dX11_locked_58 (by decide) ?_
      refine u_iload_n (pc := 59) F dX11_locked_59 2 rfl rfl ?_
      refine u_iadd (pc := 60) F dX11_locked_60 ?_
      refine u_aload_n (pc := 61) F dX11_locked_61 0 rfl rfl ?_
      refine u_getA (pc := 62) F dX11_locked_62 (hL 11 0 0 (by decide) rfl) ck_11 fl_11_19 rfl (by decide) (by decide) ?_
      refine u_iload_n (pc := 65) F dX11_locked_65 2 rfl rfl ?_
      obtain ⟨b10, h⟩ := d_ab_some h
      refine u_aldI1 (pc := 66) F dX11_locked_66 (hL 11 0 9 (by decide) rfl) rfl b10 ?_
      refine u_iconst (v := 1) (pc := 67) F dX11_locked_67 (by decide) ?_
      refine u_icmp_ne (pc := 68) F 88 dX11_locked_68 (by decide) (fun c11 => ?_) (fun c11 => ?_)
      · rw [if_neg c11] at h
        refine u_aload_n (pc := 88) F dX11_locked_88 0 rfl rfl ?_
        refine u_getA (pc := 89) F dX11_locked_89 (hL 11 0 0 (by decide) rfl) ck_11 fl_11_34 rfl (by decide) (by decide) ?_
        refine u_iconst (v := 5) (pc := 92) F dX11_locked_92 (by decide) ?_
        refine u_iload_n (pc := 93) F dX11_locked_93 2 rfl rfl ?_
        refine u_iadd (pc := 94) F dX11_locked_94 ?_
        obtain ⟨b12, h⟩ := d_ab_some h
        refine u_aldI1 (pc := 95) F dX11_locked_95 (hL 11 0 14 (by decide) rfl) rfl b12 ?_
        obtain ⟨b13, h⟩ := d_ab_some h
        refine u_astI1 (pc := 96) F dX11_locked_96 (hL 11 0 14 (by decide) rfl) rfl b13 ?_
        obtain ⟨g14, hg14, h⟩ := d_lt_some h
        refine u_mem (σ2 := (upM σ 11 0 g14)) (by rw [hg14]) ?_
        obtain ⟨v15, hv15, h⟩ := d_lt_some h
        refine u_iinc (lv' := [(5, .int v15), (0, .ref (adr G (11, 0, 0))), (1, .int x1), (2, .int x2), (4, .int x4)]) (pc := 97) F dX11_locked_97 4 rfl hv15.symm hY (by decide) rfl ?_
        refine u_goto (pc := 100) F 42 dX11_locked_100 (by decide) ?_
        refine u_lv (lv' := [(0, .ref (adr G (11, 0, 0))), (1, .int x1), (2, .int x2), (4, .int x4), (5, .int v15)]) [1, 2, 3, 4, 0] rfl ?_
        exact ih g14 x1 x2 x4 v15 z1 z2 z4 z_mo h hK
      · rw [if_pos c11] at h
        refine u_aload_n (pc := 71) F dX11_locked_71 0 rfl rfl ?_
        refine u_getA (pc := 72) F dX11_locked_72 (hL 11 0 0 (by decide) rfl) ck_11 fl_11_34 rfl (by decide) (by decide) ?_
        refine u_iconst (v := 5) (pc := 75) F dX11_locked_75 (by decide) ?_
        refine u_iload_n (pc := 76) F dX11_locked_76 2 rfl rfl ?_
        refine u_iadd (pc := 77) F dX11_locked_77 ?_
        obtain ⟨b16, h⟩ := d_ab_some h
        refine u_aldI1 (pc := 78) F dX11_locked_78 (hL 11 0 14 (by decide) rfl) rfl b16 ?_
        refine u_iconst (v := 1) (pc := 79) F dX11_locked_79 (by decide) ?_
        refine u_iadd (pc := 80) F dX11_locked_80 ?_
        refine u_sipush (v := 10000) (pc := 81) F dX11_locked_81 (by decide) ?_
        refine u_irem (pc := 84) F dX11_locked_84 (by decide) ?_
        refine u_goto (pc := 85) F 96 dX11_locked_85 (by decide) ?_
        obtain ⟨b17, h⟩ := d_ab_some h
        refine u_astI1 (pc := 96) F dX11_locked_96 (hL 11 0 14 (by decide) rfl) rfl b17 ?_
        obtain ⟨g18, hg18, h⟩ := d_lt_some h
        refine u_mem (σ2 := (upM σ 11 0 g18)) (by rw [hg18]) ?_
        obtain ⟨v19, hv19, h⟩ := d_lt_some h
        refine u_iinc (lv' := [(5, .int v19), (0, .ref (adr G (11, 0, 0))), (1, .int x1), (2, .int x2), (4, .int x4)]) (pc := 97) F dX11_locked_97 4 rfl hv19.symm hY (by decide) rfl ?_
        refine u_goto (pc := 100) F 42 dX11_locked_100 (by decide) ?_
        refine u_lv (lv' := [(0, .ref (adr G (11, 0, 0))), (1, .int x1), (2, .int x2), (4, .int x4), (5, .int v19)]) [1, 2, 3, 4, 0] rfl ?_
        exact ih g18 x1 x2 x4 v19 z1 z2 z4 z_mo h hK
set_option maxHeartbeats 4000000 in
set_option maxRecDepth 100000 in
theorem wX11_locked_28 (Y : Dy) (G : G0) (hL : Im G) (σ : Mem) (F : Fx Y G cX11_locked RX11 5) (hY : Y.2.2.2.2.2.2.2.2.2.2.2.1 = 6) (r : Int32) (mo' : Grp) (hR : ∀ (pc : Nat) (lv : List (Nat × Value)), narrow .int (.int r) = .int r → decode cX11_locked pc = .ok (.ireturn, 1) → U Y G (upM σ 11 0 (mo')) pc lv [.int r]) :
    ∀ (fu : Nat) (mo : Grp) (x1 : Int32) (x2 : Int32) (x3 : Int32) (x4 : Int32), fX11_locked_28 fu mo x1 x2 x3 x4 = some (r, mo') → U Y G (upM σ 11 0 mo) 28 [(0, .ref (adr G (11, 0, 0))), (1, .int x1), (2, .int x2), (3, .int x3), (4, .int x4)] [] := by
  intro fu
  induction fu with
  | zero =>
    intro mo x1 x2 x3 x4 h
    rw [fX11_locked_28] at h
    cases h
  | succ fu ih =>
    intro mo x1 x2 x3 x4 h
    rw [fX11_locked_28] at h
    refine u_iload (pc := 28) F dX11_locked_28 4 rfl ?_
    refine u_bipush (v := 60) (pc := 30) F dX11_locked_30 (by decide) ?_
    refine u_icmp_gt (pc := 32) F 129 dX11_locked_32 (by decide) (fun c6 => ?_) (fun c6 => ?_)
    · rw [if_neg c6] at h
      refine u_iload_n (pc := 129) F dX11_locked_129 3 rfl rfl ?_
      have h1 := Option.some.inj h
      obtain ⟨hj0, hr0⟩ := Prod.mk.inj h1
      subst hj0
      subst hr0
      exact hR _ _ rfl dX11_locked_130
    · rw [if_pos c6] at h
      refine u_iload_n (pc := 35) F dX11_locked_35 3 rfl rfl ?_
      refine u_if_ge (pc := 36) F 129 dX11_locked_36 (by decide) (fun c7 => ?_) (fun c7 => ?_)
      · rw [if_neg c7] at h
        refine u_iload_n (pc := 129) F dX11_locked_129 3 rfl rfl ?_
        have h1 := Option.some.inj h
        obtain ⟨hj0, hr0⟩ := Prod.mk.inj h1
        subst hj0
        subst hr0
        exact hR _ _ rfl dX11_locked_130
      · rw [if_pos c7] at h
        refine u_iconst (v := 0) (pc := 39) F dX11_locked_39 (by decide) ?_
        refine u_istore (lv' := [(5, .int (0 : Int32)), (0, .ref (adr G (11, 0, 0))), (1, .int x1), (2, .int x2), (3, .int x3), (4, .int x4)]) (pc := 40) F dX11_locked_40 hY (by decide) rfl ?_
        obtain ⟨q20, hq20, h⟩ := d_bd_some h
        refine u_lv (lv' := [(0, .ref (adr G (11, 0, 0))), (1, .int x1), (2, .int x2), (4, .int x4), (5, .int (0 : Int32))]) [1, 2, 3, 5, 0] rfl ?_
        refine wX11_locked_42 Y G hL σ F hY 1000 mo x1 x2 x4 (0 : Int32) q20.1 q20.2.1 q20.2.2.1 q20.2.2.2 hq20 ?_
        refine u_aload_n (pc := 103) F dX11_locked_103 0 rfl rfl ?_
        refine u_iload_n (pc := 104) F dX11_locked_104 1 rfl rfl ?_
        refine u_iload_n (pc := 105) F dX11_locked_105 2 rfl rfl ?_
        obtain ⟨q21, hq21, h⟩ := d_bd_some h
        refine u_calli (pc := 106) F (As := [.int q20.1, .int (q20.2.1)]) (c_X11_opensNextTo G hL q20.1 (q20.2.1) (upM σ 11 0 (q20.2.2.2)) (q20.2.2.2) (upM_same _ _ _ _) q21.1 q21.2 hq21) yv_X11_opensNextTo ml_11_292 (hL 11 0 0 (by decide) rfl) rfl (by decide) rfl rfl (Nat.le_of_ble_eq_true rfl) dX11_locked_106 ?_
        refine u_mem (σ2 := (upM σ 11 0 q21.2)) (by first | (rw [upM_upM]; done) | (rw [upM_mid _ _ _ _ (by decide)]; done) | (rw [upM_mid _ _ _ _ (by decide), upM_upM]; done) | (rw [upM_mid _ _ _ _ (by decide), upM_mid _ _ _ _ (by decide)]; done)) ?_
        obtain ⟨v22, hv22, h⟩ := d_lt_some h
        suffices hj : U Y G (upM σ 11 0 q21.2) 118 [(0, .ref (adr G (11, 0, 0))), (1, .int q20.1), (2, .int (q20.2.1)), (4, .int (q20.2.2.1))] [.int v22] by
          refine u_if_eq (pc := 109) F 116 dX11_locked_109 (by decide) (fun c23 => ?_) (fun c23 => ?_)
          · rw [if_pos c23] at hv22
            refine u_iload (pc := 116) F dX11_locked_116 3 rfl ?_
            exact u_topi hv22 hj
          · rw [if_neg c23] at hv22
            refine u_iconst (v := -1) (pc := 112) F dX11_locked_112 (by decide) ?_
            refine u_goto (pc := 113) F 118 dX11_locked_113 (by decide) ?_
            exact u_topi hv22 hj
        refine u_istore_n (lv' := [(3, .int v22), (0, .ref (adr G (11, 0, 0))), (1, .int q20.1), (2, .int (q20.2.1)), (4, .int (q20.2.2.1))]) (pc := 118) F dX11_locked_118 rfl hY (by decide) rfl ?_
        refine u_aload_n (pc := 119) F dX11_locked_119 1 rfl rfl ?_
        obtain ⟨q24, hq24, h⟩ := d_bd_some h
        refine u_callv (pc := 120) F (As := []) (c_X11_putBack G hL (upM σ 11 0 q21.2) q21.2 (upM_same _ _ _ _) q24 hq24) yv_X11_putBack ml_11_278 (hL 11 0 0 (by decide) rfl) rfl (by decide) rfl rfl (Nat.le_of_ble_eq_true rfl) dX11_locked_120 ?_
        refine u_mem (σ2 := (upM σ 11 0 q24)) (by first | (rw [upM_upM]; done) | (rw [upM_mid _ _ _ _ (by decide)]; done) | (rw [upM_mid _ _ _ _ (by decide), upM_upM]; done) | (rw [upM_mid _ _ _ _ (by decide), upM_mid _ _ _ _ (by decide)]; done)) ?_
        obtain ⟨v25, hv25, h⟩ := d_lt_some h
        refine u_iinc (lv' := [(4, .int v25), (3, .int v22), (0, .ref (adr G (11, 0, 0))), (1, .int q20.1), (2, .int (q20.2.1))]) (pc := 123) F dX11_locked_123 4 rfl hv25.symm hY (by decide) rfl ?_
        refine u_goto (pc := 126) F 28 dX11_locked_126 (by decide) ?_
        refine u_lv (lv' := [(0, .ref (adr G (11, 0, 0))), (1, .int q20.1), (2, .int (q20.2.1)), (3, .int v22), (4, .int v25)]) [2, 3, 4, 1, 0] rfl ?_
        exact ih q24 q20.1 (q20.2.1) v22 v25 h
set_option maxHeartbeats 4000000 in
set_option maxRecDepth 100000 in
theorem c_X11_locked (G : G0) (hL : Im G) (x1 : Int32) (x2 : Int32) (σ : Mem) (mo : Grp) (e_mo : σ 11 0 = mo) (r : Int32) (mo' : Grp) (h : fX11_locked mo x1 x2 = some (r, mo')) :
    CI G yX11_locked cX11_locked 6 .int 5 [.ref (adr G (11, 0, 0)), .int x1, .int x2] σ r (upM σ 11 0 (mo')) := by
  refine CI.of (by decide +kernel) (Nat.le_of_ble_eq_true rfl) (fun Y hY F hR => ?_)
  unfold fX11_locked at h
  have F : Fx Y G cX11_locked RX11 5 := F
  refine u_mem (σ2 := (upM σ 11 0 mo)) (by rw [← e_mo]; simp only [upM_self]) ?_
  refine u_lv (lv' := [(0, .ref (adr G (11, 0, 0))), (1, .int x1), (2, .int x2)]) [0, 1, 2] rfl ?_
  refine u_aload_n (pc := 0) F dX11_locked_0 0 rfl rfl ?_
  refine u_iload_n (pc := 1) F dX11_locked_1 1 rfl rfl ?_
  obtain ⟨q1, hq1, h⟩ := d_bd_some h
  refine u_calli (pc := 2) F (As := [.int x1]) (c_X11_isGate G hL x1 (upM σ 11 0 mo) mo (upM_same _ _ _ _) q1 hq1) yv_X11_isGate ml_11_242 (hL 11 0 0 (by decide) rfl) rfl (by decide) rfl rfl (Nat.le_of_ble_eq_true rfl) dX11_locked_2 ?_
  refine u_if_eq (pc := 5) F 16 dX11_locked_5 (by decide) (fun c2 => ?_) (fun c2 => ?_)
  · rw [if_pos c2] at h
    refine u_ldc (v := -1000000001) (pc := 16) F dX11_locked_16 kc_11_237 ?_
    have h1 := Option.some.inj h
    obtain ⟨hj0, hr0⟩ := Prod.mk.inj h1
    subst hj0
    subst hr0
    exact hR _ _ rfl dX11_locked_18
  · rw [if_neg c2] at h
    refine u_aload_n (pc := 8) F dX11_locked_8 0 rfl rfl ?_
    refine u_iload_n (pc := 9) F dX11_locked_9 2 rfl rfl ?_
    obtain ⟨q3, hq3, h⟩ := d_bd_some h
    refine u_calli (pc := 10) F (As := [.int x2]) (c_X11_isFob G hL x2 (upM σ 11 0 mo) mo (upM_same _ _ _ _) q3 hq3) yv_X11_isFob ml_11_233 (hL 11 0 0 (by decide) rfl) rfl (by decide) rfl rfl (Nat.le_of_ble_eq_true rfl) dX11_locked_10 ?_
    refine u_if_ne (pc := 13) F 19 dX11_locked_13 (by decide) (fun c4 => ?_) (fun c4 => ?_)
    · rw [if_neg c4] at h
      refine u_aload_n (pc := 19) F dX11_locked_19 0 rfl rfl ?_
      obtain ⟨q5, hq5, h⟩ := d_bd_some h
      refine u_callv (pc := 20) F (As := []) (c_X11_keepNow G hL (upM σ 11 0 mo) mo (upM_same _ _ _ _) q5 hq5) yv_X11_keepNow ml_11_275 (hL 11 0 0 (by decide) rfl) rfl (by decide) rfl rfl (Nat.le_of_ble_eq_true rfl) dX11_locked_20 ?_
      refine u_mem (σ2 := (upM σ 11 0 q5)) (by first | (rw [upM_upM]; done) | (rw [upM_mid _ _ _ _ (by decide)]; done) | (rw [upM_mid _ _ _ _ (by decide), upM_upM]; done) | (rw [upM_mid _ _ _ _ (by decide), upM_mid _ _ _ _ (by decide)]; done)) ?_
      refine u_iconst (v := -1) (pc := 23) F dX11_locked_23 (by decide) ?_
      refine u_istore_n (lv' := [(3, .int (-1 : Int32)), (0, .ref (adr G (11, 0, 0))), (1, .int x1), (2, .int x2)]) (pc := 24) F dX11_locked_24 rfl hY (by decide) rfl ?_
      refine u_iconst (v := 0) (pc := 25) F dX11_locked_25 (by decide) ?_
      refine u_istore (lv' := [(4, .int (0 : Int32)), (3, .int (-1 : Int32)), (0, .ref (adr G (11, 0, 0))), (1, .int x1), (2, .int x2)]) (pc := 26) F dX11_locked_26 hY (by decide) rfl ?_
      refine u_lv (lv' := [(0, .ref (adr G (11, 0, 0))), (1, .int x1), (2, .int x2), (3, .int (-1 : Int32)), (4, .int (0 : Int32))]) [2, 3, 4, 1, 0] rfl ?_
      exact wX11_locked_28 Y G hL σ F hY r mo' hR 1000 q5 x1 x2 (-1 : Int32) (0 : Int32) h
    · rw [if_pos c4] at h
      refine u_ldc (v := -1000000001) (pc := 16) F dX11_locked_16 kc_11_237 ?_
      have h1 := Option.some.inj h
      obtain ⟨hj0, hr0⟩ := Prod.mk.inj h1
      subst hj0
      subst hr0
      exact hR _ _ rfl dX11_locked_18
/- RollingCodesModel.takes -/
def fX11_takes_61  (mo : Grp) (x3 : Int32) : Option (Int32 × Grp) :=
    d_bd (fX11_putBack mo) fun q7 => some (x3, q7)
def fX11_takes_28  : Nat → Grp → Int32 → Int32 → Int32 → Int32 → Option (Int32 × Grp)
  | 0, _, _, _, _, _ => none
  | fu + 1, mo, x1, x2, x3, x4 =>
    if x4 ≤ (10 : Int32) then (if x3 < 0 then (d_bd (fX11_opensNextTo mo x1 x2) fun q9 => d_lt (if q9.1 = 0 then (-1 : Int32) else x4) fun v10 => d_lt (x4 + (1 : Int32)) fun v12 => fX11_takes_28 fu q9.2 x1 x2 v10 v12) else (fX11_takes_61 mo x3)) else (fX11_takes_61 mo x3)
def fX11_takes (mo : Grp) (x1 : Int32) (x2 : Int32) : Option (Int32 × Grp) :=
    d_bd (fX11_isGate mo x1) fun q1 => if q1 = 0 then (some ((-1000000001 : Int32), mo)) else (d_bd (fX11_isFob mo x2) fun q3 => if q3 = 0 then (some ((-1000000001 : Int32), mo)) else (d_bd (fX11_keepNow mo) fun q5 => fX11_takes_28 1000 q5 x1 x2 (-1 : Int32) (1 : Int32)))
set_option maxHeartbeats 4000000 in
set_option maxRecDepth 100000 in
theorem wX11_takes_61 (Y : Dy) (G : G0) (hL : Im G) (σ : Mem) (F : Fx Y G cX11_takes RX11 5) (hY : Y.2.2.2.2.2.2.2.2.2.2.2.1 = 5) (r : Int32) (mo' : Grp) (hR : ∀ (pc : Nat) (lv : List (Nat × Value)), narrow .int (.int r) = .int r → decode cX11_takes pc = .ok (.ireturn, 1) → U Y G (upM σ 11 0 (mo')) pc lv [.int r]) :
    ∀ (mo : Grp) (x3 : Int32), fX11_takes_61 mo x3 = some (r, mo') → U Y G (upM σ 11 0 mo) 61 [(0, .ref (adr G (11, 0, 0))), (3, .int x3)] [] := by
  intro mo x3 h
  unfold fX11_takes_61 at h
  refine u_aload_n (pc := 61) F dX11_takes_61 0 rfl rfl ?_
  obtain ⟨q7, hq7, h⟩ := d_bd_some h
  refine u_callv (pc := 62) F (As := []) (c_X11_putBack G hL (upM σ 11 0 mo) mo (upM_same _ _ _ _) q7 hq7) yv_X11_putBack ml_11_278 (hL 11 0 0 (by decide) rfl) rfl (by decide) rfl rfl (Nat.le_of_ble_eq_true rfl) dX11_takes_62 ?_
  refine u_mem (σ2 := (upM σ 11 0 q7)) (by first | (rw [upM_upM]; done) | (rw [upM_mid _ _ _ _ (by decide)]; done) | (rw [upM_mid _ _ _ _ (by decide), upM_upM]; done) | (rw [upM_mid _ _ _ _ (by decide), upM_mid _ _ _ _ (by decide)]; done)) ?_
  refine u_iload_n (pc := 65) F dX11_takes_65 1 rfl rfl ?_
  have h1 := Option.some.inj h
  obtain ⟨hj0, hr0⟩ := Prod.mk.inj h1
  subst hj0
  subst hr0
  exact hR _ _ rfl dX11_takes_66
set_option maxHeartbeats 4000000 in
set_option maxRecDepth 100000 in
theorem wX11_takes_28 (Y : Dy) (G : G0) (hL : Im G) (σ : Mem) (F : Fx Y G cX11_takes RX11 5) (hY : Y.2.2.2.2.2.2.2.2.2.2.2.1 = 5) (r : Int32) (mo' : Grp) (hR : ∀ (pc : Nat) (lv : List (Nat × Value)), narrow .int (.int r) = .int r → decode cX11_takes pc = .ok (.ireturn, 1) → U Y G (upM σ 11 0 (mo')) pc lv [.int r]) :
    ∀ (fu : Nat) (mo : Grp) (x1 : Int32) (x2 : Int32) (x3 : Int32) (x4 : Int32), fX11_takes_28 fu mo x1 x2 x3 x4 = some (r, mo') → U Y G (upM σ 11 0 mo) 28 [(0, .ref (adr G (11, 0, 0))), (1, .int x1), (2, .int x2), (3, .int x3), (4, .int x4)] [] := by
  intro fu
  induction fu with
  | zero =>
    intro mo x1 x2 x3 x4 h
    rw [fX11_takes_28] at h
    cases h
  | succ fu ih =>
    intro mo x1 x2 x3 x4 h
    rw [fX11_takes_28] at h
    refine u_iload (pc := 28) F dX11_takes_28 4 rfl ?_
    refine u_bipush (v := 10) (pc := 30) F dX11_takes_30 (by decide) ?_
    refine u_icmp_gt (pc := 32) F 61 dX11_takes_32 (by decide) (fun c6 => ?_) (fun c6 => ?_)
    · rw [if_neg c6] at h
      refine u_lv (lv' := [(0, .ref (adr G (11, 0, 0))), (3, .int x3)]) [0, 3] rfl ?_
      exact wX11_takes_61 Y G hL σ F hY r mo' hR mo x3 h
    · rw [if_pos c6] at h
      refine u_iload_n (pc := 35) F dX11_takes_35 3 rfl rfl ?_
      refine u_if_ge (pc := 36) F 61 dX11_takes_36 (by decide) (fun c8 => ?_) (fun c8 => ?_)
      · rw [if_neg c8] at h
        refine u_lv (lv' := [(0, .ref (adr G (11, 0, 0))), (3, .int x3)]) [0, 3] rfl ?_
        exact wX11_takes_61 Y G hL σ F hY r mo' hR mo x3 h
      · rw [if_pos c8] at h
        refine u_aload_n (pc := 39) F dX11_takes_39 0 rfl rfl ?_
        refine u_iload_n (pc := 40) F dX11_takes_40 1 rfl rfl ?_
        refine u_iload_n (pc := 41) F dX11_takes_41 2 rfl rfl ?_
        obtain ⟨q9, hq9, h⟩ := d_bd_some h
        refine u_calli (pc := 42) F (As := [.int x1, .int x2]) (c_X11_opensNextTo G hL x1 x2 (upM σ 11 0 mo) mo (upM_same _ _ _ _) q9.1 q9.2 hq9) yv_X11_opensNextTo ml_11_292 (hL 11 0 0 (by decide) rfl) rfl (by decide) rfl rfl (Nat.le_of_ble_eq_true rfl) dX11_takes_42 ?_
        refine u_mem (σ2 := (upM σ 11 0 q9.2)) (by first | (rw [upM_upM]; done) | (rw [upM_mid _ _ _ _ (by decide)]; done) | (rw [upM_mid _ _ _ _ (by decide), upM_upM]; done) | (rw [upM_mid _ _ _ _ (by decide), upM_mid _ _ _ _ (by decide)]; done)) ?_
        obtain ⟨v10, hv10, h⟩ := d_lt_some h
        suffices hj : U Y G (upM σ 11 0 q9.2) 54 [(0, .ref (adr G (11, 0, 0))), (1, .int x1), (2, .int x2), (3, .int x3), (4, .int x4)] [.int v10] by
          refine u_if_eq (pc := 45) F 53 dX11_takes_45 (by decide) (fun c11 => ?_) (fun c11 => ?_)
          · rw [if_pos c11] at hv10
            refine u_iconst (v := -1) (pc := 53) F dX11_takes_53 (by decide) ?_
            exact u_topi hv10 hj
          · rw [if_neg c11] at hv10
            refine u_iload (pc := 48) F dX11_takes_48 4 rfl ?_
            refine u_goto (pc := 50) F 54 dX11_takes_50 (by decide) ?_
            exact u_topi hv10 hj
        refine u_istore_n (lv' := [(3, .int v10), (0, .ref (adr G (11, 0, 0))), (1, .int x1), (2, .int x2), (4, .int x4)]) (pc := 54) F dX11_takes_54 rfl hY (by decide) rfl ?_
        obtain ⟨v12, hv12, h⟩ := d_lt_some h
        refine u_iinc (lv' := [(4, .int v12), (3, .int v10), (0, .ref (adr G (11, 0, 0))), (1, .int x1), (2, .int x2)]) (pc := 55) F dX11_takes_55 4 rfl hv12.symm hY (by decide) rfl ?_
        refine u_goto (pc := 58) F 28 dX11_takes_58 (by decide) ?_
        refine u_lv (lv' := [(0, .ref (adr G (11, 0, 0))), (1, .int x1), (2, .int x2), (3, .int v10), (4, .int v12)]) [2, 3, 4, 1, 0] rfl ?_
        exact ih q9.2 x1 x2 v10 v12 h
set_option maxHeartbeats 4000000 in
set_option maxRecDepth 100000 in
theorem c_X11_takes (G : G0) (hL : Im G) (x1 : Int32) (x2 : Int32) (σ : Mem) (mo : Grp) (e_mo : σ 11 0 = mo) (r : Int32) (mo' : Grp) (h : fX11_takes mo x1 x2 = some (r, mo')) :
    CI G yX11_takes cX11_takes 5 .int 5 [.ref (adr G (11, 0, 0)), .int x1, .int x2] σ r (upM σ 11 0 (mo')) := by
  refine CI.of (by decide +kernel) (Nat.le_of_ble_eq_true rfl) (fun Y hY F hR => ?_)
  unfold fX11_takes at h
  have F : Fx Y G cX11_takes RX11 5 := F
  refine u_mem (σ2 := (upM σ 11 0 mo)) (by rw [← e_mo]; simp only [upM_self]) ?_
  refine u_lv (lv' := [(0, .ref (adr G (11, 0, 0))), (1, .int x1), (2, .int x2)]) [0, 1, 2] rfl ?_
  refine u_aload_n (pc := 0) F dX11_takes_0 0 rfl rfl ?_
  refine u_iload_n (pc := 1) F dX11_takes_1 1 rfl rfl ?_
  obtain ⟨q1, hq1, h⟩ := d_bd_some h
  refine u_calli (pc := 2) F (As := [.int x1]) (c_X11_isGate G hL x1 (upM σ 11 0 mo) mo (upM_same _ _ _ _) q1 hq1) yv_X11_isGate ml_11_242 (hL 11 0 0 (by decide) rfl) rfl (by decide) rfl rfl (Nat.le_of_ble_eq_true rfl) dX11_takes_2 ?_
  refine u_if_eq (pc := 5) F 16 dX11_takes_5 (by decide) (fun c2 => ?_) (fun c2 => ?_)
  · rw [if_pos c2] at h
    refine u_ldc (v := -1000000001) (pc := 16) F dX11_takes_16 kc_11_237 ?_
    have h1 := Option.some.inj h
    obtain ⟨hj0, hr0⟩ := Prod.mk.inj h1
    subst hj0
    subst hr0
    exact hR _ _ rfl dX11_takes_18
  · rw [if_neg c2] at h
    refine u_aload_n (pc := 8) F dX11_takes_8 0 rfl rfl ?_
    refine u_iload_n (pc := 9) F dX11_takes_9 2 rfl rfl ?_
    obtain ⟨q3, hq3, h⟩ := d_bd_some h
    refine u_calli (pc := 10) F (As := [.int x2]) (c_X11_isFob G hL x2 (upM σ 11 0 mo) mo (upM_same _ _ _ _) q3 hq3) yv_X11_isFob ml_11_233 (hL 11 0 0 (by decide) rfl) rfl (by decide) rfl rfl (Nat.le_of_ble_eq_true rfl) dX11_takes_10 ?_
    refine u_if_ne (pc := 13) F 19 dX11_takes_13 (by decide) (fun c4 => ?_) (fun c4 => ?_)
    · rw [if_neg c4] at h
      refine u_aload_n (pc := 19) F dX11_takes_19 0 rfl rfl ?_
      obtain ⟨q5, hq5, h⟩ := d_bd_some h
      refine u_callv (pc := 20) F (As := []) (c_X11_keepNow G hL (upM σ 11 0 mo) mo (upM_same _ _ _ _) q5 hq5) yv_X11_keepNow ml_11_275 (hL 11 0 0 (by decide) rfl) rfl (by decide) rfl rfl (Nat.le_of_ble_eq_true rfl) dX11_takes_20 ?_
      refine u_mem (σ2 := (upM σ 11 0 q5)) (by first | (rw [upM_upM]; done) | (rw [upM_mid _ _ _ _ (by decide)]; done) | (rw [upM_mid _ _ _ _ (by decide), upM_upM]; done) | (rw [upM_mid _ _ _ _ (by decide), upM_mid _ _ _ _ (by decide)]; done)) ?_
      refine u_iconst (v := -1) (pc := 23) F dX11_takes_23 (by decide) ?_
      refine u_istore_n (lv' := [(3, .int (-1 : Int32)), (0, .ref (adr G (11, 0, 0))), (1, .int x1), (2, .int x2)]) (pc := 24) F dX11_takes_24 rfl hY (by decide) rfl ?_
      refine u_iconst (v := 1) (pc := 25) F dX11_takes_25 (by decide) ?_
      refine u_istore (lv' := [(4, .int (1 : Int32)), (3, .int (-1 : Int32)), (0, .ref (adr G (11, 0, 0))), (1, .int x1), (2, .int x2)]) (pc := 26) F dX11_takes_26 hY (by decide) rfl ?_
      refine u_lv (lv' := [(0, .ref (adr G (11, 0, 0))), (1, .int x1), (2, .int x2), (3, .int (-1 : Int32)), (4, .int (1 : Int32))]) [2, 3, 4, 1, 0] rfl ?_
      exact wX11_takes_28 Y G hL σ F hY r mo' hR 1000 q5 x1 x2 (-1 : Int32) (1 : Int32) h
    · rw [if_pos c4] at h
      refine u_ldc (v := -1000000001) (pc := 16) F dX11_takes_16 kc_11_237 ?_
      have h1 := Option.some.inj h
      obtain ⟨hj0, hr0⟩ := Prod.mk.inj h1
      subst hj0
      subst hr0
      exact hR _ _ rfl dX11_takes_18
