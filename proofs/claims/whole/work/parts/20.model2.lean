/- RollingCodesModel.code -/
def fX11_code (x1 : Int32) (x2 : Int32) : Option (Int32) :=
    d_bd (fX11_in (x1.toInt64) (0 : Int64) (255 : Int64)) fun q1 => if q1 = 0 then (some (-1000000002 : Int32)) else (d_bd (fX11_in (x2.toInt64) (0 : Int64) (9999 : Int64)) fun q3 => if q3 = 0 then (some (-1000000002 : Int32)) else (d_bd (fX11_codeOf x1 x2) fun q5 => some q5))
set_option maxHeartbeats 4000000 in
set_option maxRecDepth 100000 in
theorem c_X11_code (G : G0) (hL : Im G) (x1 : Int32) (x2 : Int32) (σ : Mem) (r : Int32) (h : fX11_code x1 x2 = some r) :
    CI G yX11_code cX11_code 3 .int 2 [.ref (adr G (11, 0, 0)), .int x1, .int x2] σ r σ := by
  refine CI.of (by decide +kernel) (Nat.le_of_ble_eq_true rfl) (fun Y hY F hR => ?_)
  unfold fX11_code at h
  have F : Fx Y G cX11_code RX11 2 := F
  refine u_lv (lv' := [(0, .ref (adr G (11, 0, 0))), (1, .int x1), (2, .int x2)]) [0, 1, 2] rfl ?_
  refine u_iload_n (pc := 0) F dX11_code_0 1 rfl rfl ?_
  refine u_i2l (pc := 1) F dX11_code_1 ?_
  refine u_lconst (v := 0) (pc := 2) F dX11_code_2 (by decide) ?_
  refine u_ldc2 (v := 255) (pc := 3) F dX11_code_3 kc_11_109 ?_
  obtain ⟨q1, hq1, h⟩ := d_bd_some h
  refine u_callSi (pc := 6) F (As := [.long (x1.toInt64), .long (0 : Int64), .long (255 : Int64)]) (c_X11_in G hL (x1.toInt64) (0 : Int64) (255 : Int64) σ q1 hq1) ys_X11_in ml_11_105 (by decide) rfl rfl (Nat.le_of_ble_eq_true rfl) dX11_code_6 ?_
  refine u_if_eq (pc := 9) F 32 dX11_code_9 (by decide) (fun c2 => ?_) (fun c2 => ?_)
  · rw [if_pos c2] at h
    refine u_ldc (v := -1000000002) (pc := 32) F dX11_code_32 kc_11_111 ?_
    have h1 := Option.some.inj h
    subst h1
    exact hR _ _ rfl dX11_code_34
  · rw [if_neg c2] at h
    refine u_iload_n (pc := 12) F dX11_code_12 2 rfl rfl ?_
    refine u_i2l (pc := 13) F dX11_code_13 ?_
    refine u_lconst (v := 0) (pc := 14) F dX11_code_14 (by decide) ?_
    refine u_ldc2 (v := 9999) (pc := 15) F dX11_code_15 kc_11_191 ?_
    obtain ⟨q3, hq3, h⟩ := d_bd_some h
    refine u_callSi (pc := 18) F (As := [.long (x2.toInt64), .long (0 : Int64), .long (9999 : Int64)]) (c_X11_in G hL (x2.toInt64) (0 : Int64) (9999 : Int64) σ q3 hq3) ys_X11_in ml_11_105 (by decide) rfl rfl (Nat.le_of_ble_eq_true rfl) dX11_code_18 ?_
    refine u_if_eq (pc := 21) F 32 dX11_code_21 (by decide) (fun c4 => ?_) (fun c4 => ?_)
    · rw [if_pos c4] at h
      refine u_ldc (v := -1000000002) (pc := 32) F dX11_code_32 kc_11_111 ?_
      have h1 := Option.some.inj h
      subst h1
      exact hR _ _ rfl dX11_code_34
    · rw [if_neg c4] at h
      refine u_iload_n (pc := 24) F dX11_code_24 1 rfl rfl ?_
      refine u_iload_n (pc := 25) F dX11_code_25 2 rfl rfl ?_
      obtain ⟨q5, hq5, h⟩ := d_bd_some h
      refine u_callSi (pc := 26) F (As := [.int x1, .int x2]) (c_X11_codeOf G hL x1 x2 σ q5 hq5) ys_X11_codeOf ml_11_193 (by decide) rfl rfl (Nat.le_of_ble_eq_true rfl) dX11_code_26 ?_
      refine u_goto (pc := 29) F 34 dX11_code_29 (by decide) ?_
      have h1 := Option.some.inj h
      subst h1
      exact hR _ _ rfl dX11_code_34
/- RollingCodesModel.aheadOf -/
def fX11_aheadOf (mo : Grp) (x1 : Int32) (x2 : Int32) : Option (Int32) :=
    d_ab ((5 : Int32) + x2) 59 <| d_ab (((38 : Int32) + ((5 : Int32) * x1)) + x2) 59 <| some (jrem (((mo 14 ((5 : Int32) + x2).toNatClampNeg) + (10000 : Int32)) - (mo 14 (((38 : Int32) + ((5 : Int32) * x1)) + x2).toNatClampNeg)) (10000 : Int32))
set_option maxHeartbeats 4000000 in
set_option maxRecDepth 100000 in
theorem c_X11_aheadOf (G : G0) (hL : Im G) (x1 : Int32) (x2 : Int32) (σ : Mem) (mo : Grp) (e_mo : σ 11 0 = mo) (r : Int32) (h : fX11_aheadOf mo x1 x2 = some r) :
    CI G yX11_aheadOf cX11_aheadOf 3 .int 1 [.ref (adr G (11, 0, 0)), .int x1, .int x2] σ r σ := by
  refine CI.of (by decide +kernel) (Nat.le_of_ble_eq_true rfl) (fun Y hY F hR => ?_)
  unfold fX11_aheadOf at h
  have F : Fx Y G cX11_aheadOf RX11 1 := F
  refine u_lv (lv' := [(0, .ref (adr G (11, 0, 0))), (1, .int x1), (2, .int x2)]) [0, 1, 2] rfl ?_
  refine u_aload_n (pc := 0) F dX11_aheadOf_0 0 rfl rfl ?_
  refine u_getA (pc := 1) F dX11_aheadOf_1 (hL 11 0 0 (by decide) rfl) ck_11 fl_11_34 rfl (by decide) (by decide) ?_
  refine u_iconst (v := 5) (pc := 4) F dX11_aheadOf_4 (by decide) ?_
  refine u_iload_n (pc := 5) F dX11_aheadOf_5 2 rfl rfl ?_
  refine u_iadd (pc := 6) F dX11_aheadOf_6 ?_
  obtain ⟨b1, h⟩ := d_ab_some h
  refine u_aldI (v := mo 14 ((5 : Int32) + x2).toNatClampNeg) (pc := 7) F dX11_aheadOf_7 (hL 11 0 14 (by decide) rfl) rfl b1 (congrFun (congrFun (show σ 11 0 = mo from e_mo) 14) _) ?_
  refine u_sipush (v := 10000) (pc := 8) F dX11_aheadOf_8 (by decide) ?_
  refine u_iadd (pc := 11) F dX11_aheadOf_11 ?_
  refine u_aload_n (pc := 12) F dX11_aheadOf_12 0 rfl rfl ?_
  refine u_getA (pc := 13) F dX11_aheadOf_13 (hL 11 0 0 (by decide) rfl) ck_11 fl_11_34 rfl (by decide) (by decide) ?_
  refine u_bipush (v := 38) (pc := 16) F dX11_aheadOf_16 (by decide) ?_
  refine u_iconst (v := 5) (pc := 18) F dX11_aheadOf_18 (by decide) ?_
  refine u_iload_n (pc := 19) F dX11_aheadOf_19 1 rfl rfl ?_
  refine u_imul (pc := 20) F dX11_aheadOf_20 ?_
  refine u_iadd (pc := 21) F dX11_aheadOf_21 ?_
  refine u_iload_n (pc := 22) F dX11_aheadOf_22 2 rfl rfl ?_
  refine u_iadd (pc := 23) F dX11_aheadOf_23 ?_
  obtain ⟨b2, h⟩ := d_ab_some h
  refine u_aldI (v := mo 14 (((38 : Int32) + ((5 : Int32) * x1)) + x2).toNatClampNeg) (pc := 24) F dX11_aheadOf_24 (hL 11 0 14 (by decide) rfl) rfl b2 (congrFun (congrFun (show σ 11 0 = mo from e_mo) 14) _) ?_
  refine u_isub (pc := 25) F dX11_aheadOf_25 ?_
  refine u_sipush (v := 10000) (pc := 26) F dX11_aheadOf_26 (by decide) ?_
  refine u_irem (pc := 29) F dX11_aheadOf_29 (by decide) ?_
  have h1 := Option.some.inj h
  subst h1
  exact hR _ _ rfl dX11_aheadOf_30
/- RollingCodesModel.openBy -/
def fX11_openBy (mo : Grp) (x1 : Int32) (x2 : Int32) (x3 : Int32) : Option (Grp) :=
    d_ab (((38 : Int32) + ((5 : Int32) * x1)) + x2) 59 <| d_lt (wr mo 14 (((38 : Int32) + ((5 : Int32) * x1)) + x2).toNatClampNeg x3) fun g2 => d_ab ((26 : Int32) + x1) 59 <| d_ab ((26 : Int32) + x1) 59 <| d_lt (if (g2 14 ((26 : Int32) + x1).toNatClampNeg) < (9999 : Int32) then (1 : Int32) else (0 : Int32)) fun v5 => d_ab ((26 : Int32) + x1) 59 <| d_lt (wr g2 14 ((26 : Int32) + x1).toNatClampNeg ((g2 14 ((26 : Int32) + x1).toNatClampNeg) + v5)) fun g8 => d_ab ((30 : Int32) + x1) 59 <| d_lt (wr g8 14 ((30 : Int32) + x1).toNatClampNeg (-1 : Int32)) fun g10 => d_ab ((34 : Int32) + x1) 59 <| d_lt (wr g10 14 ((34 : Int32) + x1).toNatClampNeg (-1 : Int32)) fun g12 => some g12
set_option maxHeartbeats 4000000 in
set_option maxRecDepth 100000 in
theorem c_X11_openBy (G : G0) (hL : Im G) (x1 : Int32) (x2 : Int32) (x3 : Int32) (σ : Mem) (mo : Grp) (e_mo : σ 11 0 = mo) (mo' : Grp) (h : fX11_openBy mo x1 x2 x3 = some mo') :
    CV G yX11_openBy cX11_openBy 4 1 [.ref (adr G (11, 0, 0)), .int x1, .int x2, .int x3] σ (upM σ 11 0 (mo')) := by
  refine CV.of (by decide +kernel) (Nat.le_of_ble_eq_true rfl) (fun Y hY F hR => ?_)
  unfold fX11_openBy at h
  have F : Fx Y G cX11_openBy RX11 1 := F
  refine u_mem (σ2 := (upM σ 11 0 mo)) (by rw [← e_mo]; simp only [upM_self]) ?_
  refine u_lv (lv' := [(0, .ref (adr G (11, 0, 0))), (1, .int x1), (2, .int x2), (3, .int x3)]) [0, 1, 2, 3] rfl ?_
  refine u_aload_n (pc := 0) F dX11_openBy_0 0 rfl rfl ?_
  refine u_getA (pc := 1) F dX11_openBy_1 (hL 11 0 0 (by decide) rfl) ck_11 fl_11_34 rfl (by decide) (by decide) ?_
  refine u_bipush (v := 38) (pc := 4) F dX11_openBy_4 (by decide) ?_
  refine u_iconst (v := 5) (pc := 6) F dX11_openBy_6 (by decide) ?_
  refine u_iload_n (pc := 7) F dX11_openBy_7 1 rfl rfl ?_
  refine u_imul (pc := 8) F dX11_openBy_8 ?_
  refine u_iadd (pc := 9) F dX11_openBy_9 ?_
  refine u_iload_n (pc := 10) F dX11_openBy_10 2 rfl rfl ?_
  refine u_iadd (pc := 11) F dX11_openBy_11 ?_
  refine u_iload_n (pc := 12) F dX11_openBy_12 3 rfl rfl ?_
  obtain ⟨b1, h⟩ := d_ab_some h
  refine u_astI1 (pc := 13) F dX11_openBy_13 (hL 11 0 14 (by decide) rfl) rfl b1 ?_
  obtain ⟨g2, hg2, h⟩ := d_lt_some h
  refine u_mem (σ2 := (upM σ 11 0 g2)) (by rw [hg2]) ?_
  refine u_aload_n (pc := 14) F dX11_openBy_14 0 rfl rfl ?_
  refine u_getA (pc := 15) F dX11_openBy_15 (hL 11 0 0 (by decide) rfl) ck_11 fl_11_34 rfl (by decide) (by decide) ?_
  refine u_bipush (v := 26) (pc := 18) F dX11_openBy_18 (by decide) ?_
  refine u_iload_n (pc := 20) F dX11_openBy_20 1 rfl rfl ?_
  refine u_iadd (pc := 21) F dX11_openBy_21 ?_
  refine u_dup2 (pc := 22) F dX11_openBy_22 rfl rfl ?_
  obtain ⟨b3, h⟩ := d_ab_some h
  refine u_aldI1 (pc := 23) F dX11_openBy_23 (hL 11 0 14 (by decide) rfl) rfl b3 ?_
  refine u_aload_n (pc := 24) F dX11_openBy_24 0 rfl rfl ?_
  refine u_getA (pc := 25) F dX11_openBy_25 (hL 11 0 0 (by decide) rfl) ck_11 fl_11_34 rfl (by decide) (by decide) ?_
  refine u_bipush (v := 26) (pc := 28) F dX11_openBy_28 (by decide) ?_
  refine u_iload_n (pc := 30) F dX11_openBy_30 1 rfl rfl ?_
  refine u_iadd (pc := 31) F dX11_openBy_31 ?_
  obtain ⟨b4, h⟩ := d_ab_some h
  refine u_aldI1 (pc := 32) F dX11_openBy_32 (hL 11 0 14 (by decide) rfl) rfl b4 ?_
  refine u_sipush (v := 9999) (pc := 33) F dX11_openBy_33 (by decide) ?_
  obtain ⟨v5, hv5, h⟩ := d_lt_some h
  suffices hj : U Y G (upM σ 11 0 g2) 44 [(0, .ref (adr G (11, 0, 0))), (1, .int x1), (2, .int x2), (3, .int x3)] [.int v5, .int (g2 14 ((26 : Int32) + x1).toNatClampNeg), .int ((26 : Int32) + x1), .ref (adr G (11, 0, 14))] by
    refine u_icmp_ge (pc := 36) F 43 dX11_openBy_36 (by decide) (fun c6 => ?_) (fun c6 => ?_)
    · rw [if_neg c6] at hv5
      refine u_iconst (v := 0) (pc := 43) F dX11_openBy_43 (by decide) ?_
      exact u_topi hv5 hj
    · rw [if_pos c6] at hv5
      refine u_iconst (v := 1) (pc := 39) F dX11_openBy_39 (by decide) ?_
      refine u_goto (pc := 40) F 44 dX11_openBy_40 (by decide) ?_
      exact u_topi hv5 hj
  refine u_iadd (pc := 44) F dX11_openBy_44 ?_
  obtain ⟨b7, h⟩ := d_ab_some h
  refine u_astI1 (pc := 45) F dX11_openBy_45 (hL 11 0 14 (by decide) rfl) rfl b7 ?_
  obtain ⟨g8, hg8, h⟩ := d_lt_some h
  refine u_mem (σ2 := (upM σ 11 0 g8)) (by rw [hg8]) ?_
  refine u_aload_n (pc := 46) F dX11_openBy_46 0 rfl rfl ?_
  refine u_getA (pc := 47) F dX11_openBy_47 (hL 11 0 0 (by decide) rfl) ck_11 fl_11_34 rfl (by decide) (by decide) ?_
  refine u_bipush (v := 30) (pc := 50) F dX11_openBy_50 (by decide) ?_
  refine u_iload_n (pc := 52) F dX11_openBy_52 1 rfl rfl ?_
  refine u_iadd (pc := 53) F dX11_openBy_53 ?_
  refine u_iconst (v := -1) (pc := 54) F dX11_openBy_54 (by decide) ?_
  obtain ⟨b9, h⟩ := d_ab_some h
  refine u_astI1 (pc := 55) F dX11_openBy_55 (hL 11 0 14 (by decide) rfl) rfl b9 ?_
  obtain ⟨g10, hg10, h⟩ := d_lt_some h
  refine u_mem (σ2 := (upM σ 11 0 g10)) (by rw [hg10]) ?_
  refine u_aload_n (pc := 56) F dX11_openBy_56 0 rfl rfl ?_
  refine u_getA (pc := 57) F dX11_openBy_57 (hL 11 0 0 (by decide) rfl) ck_11 fl_11_34 rfl (by decide) (by decide) ?_
  refine u_bipush (v := 34) (pc := 60) F dX11_openBy_60 (by decide) ?_
  refine u_iload_n (pc := 62) F dX11_openBy_62 1 rfl rfl ?_
  refine u_iadd (pc := 63) F dX11_openBy_63 ?_
  refine u_iconst (v := -1) (pc := 64) F dX11_openBy_64 (by decide) ?_
  obtain ⟨b11, h⟩ := d_ab_some h
  refine u_astI1 (pc := 65) F dX11_openBy_65 (hL 11 0 14 (by decide) rfl) rfl b11 ?_
  obtain ⟨g12, hg12, h⟩ := d_lt_some h
  refine u_mem (σ2 := (upM σ 11 0 g12)) (by rw [hg12]) ?_
  have h1 := Option.some.inj h
  subst h1
  exact hR _ _ dX11_openBy_66
/- RollingCodesModel.matchOf -/
def fX11_matchOf_43 (mo : Grp) : Nat → Int32 → Int32 → Int32 → Int32 → Int32 → Option (Int32)
  | 0, _, _, _, _, _ => none
  | fu + 1, x1, x2, x3, x5, x6 =>
    if x6 ≤ x5 then (d_ab x2 5 <| d_ab (((38 : Int32) + ((5 : Int32) * x1)) + x2) 59 <| d_bd (fX11_codeOf (mo 12 x2.toNatClampNeg) (jrem ((mo 14 (((38 : Int32) + ((5 : Int32) * x1)) + x2).toNatClampNeg) + x6) (10000 : Int32))) fun q10 => if q10 = x3 then (some x6) else (d_lt (x6 + (1 : Int32)) fun v12 => fX11_matchOf_43 mo fu x1 x2 x3 x5 v12)) else (some (-1 : Int32))
def fX11_matchOf_37 (mo : Grp)  (x1 : Int32) (x2 : Int32) (x3 : Int32) (x4 : Int32) (s0 : Int32) : Option (Int32) :=
    fX11_matchOf_43 mo 1000 x1 x2 x3 s0 x4
def fX11_matchOf (mo : Grp) (x1 : Int32) (x2 : Int32) (x3 : Int32) : Option (Int32) :=
    d_ab x1 4 <| d_lt (if (mo 5 x1.toNatClampNeg) = (2 : Int32) then (0 : Int32) else (1 : Int32)) fun v2 => d_ab x1 4 <| if (mo 5 x1.toNatClampNeg) = (1 : Int32) then (fX11_matchOf_37 mo x1 x2 x3 v2 (1 : Int32)) else (d_ab x1 4 <| fX11_matchOf_37 mo x1 x2 x3 v2 (mo 7 x1.toNatClampNeg))
set_option maxHeartbeats 4000000 in
set_option maxRecDepth 100000 in
theorem wX11_matchOf_43 (Y : Dy) (G : G0) (hL : Im G) (σ : Mem) (mo : Grp) (e_mo : σ 11 0 = mo) (F : Fx Y G cX11_matchOf RX11 2) (hY : Y.2.2.2.2.2.2.2.2.2.2.2.1 = 7) (r : Int32) (hR : ∀ (pc : Nat) (lv : List (Nat × Value)), narrow .int (.int r) = .int r → decode cX11_matchOf pc = .ok (.ireturn, 1) → U Y G σ pc lv [.int r]) :
    ∀ (fu : Nat) (x1 : Int32) (x2 : Int32) (x3 : Int32) (x5 : Int32) (x6 : Int32), fX11_matchOf_43 mo fu x1 x2 x3 x5 x6 = some r → U Y G σ 43 [(0, .ref (adr G (11, 0, 0))), (1, .int x1), (2, .int x2), (3, .int x3), (5, .int x5), (6, .int x6)] [] := by
  intro fu
  induction fu with
  | zero =>
    intro x1 x2 x3 x5 x6 h
    rw [fX11_matchOf_43] at h
    cases h
  | succ fu ih =>
    intro x1 x2 x3 x5 x6 h
    rw [fX11_matchOf_43] at h
    refine u_iload (pc := 43) F dX11_matchOf_43 5 rfl ?_
    refine u_iload (pc := 45) F dX11_matchOf_45 4 rfl ?_
    refine u_icmp_gt (pc := 47) F 92 dX11_matchOf_47 (by decide) (fun c7 => ?_) (fun c7 => ?_)
    · rw [if_neg c7] at h
      refine u_iconst (v := -1) (pc := 92) F dX11_matchOf_92 (by decide) ?_
      have h1 := Option.some.inj h
      subst h1
      exact hR _ _ rfl dX11_matchOf_93
    · rw [if_pos c7] at h
      refine u_aload_n (pc := 50) F dX11_matchOf_50 0 rfl rfl ?_
      refine u_getA (pc := 51) F dX11_matchOf_51 (hL 11 0 0 (by decide) rfl) ck_11 fl_11_28 rfl (by decide) (by decide) ?_
      refine u_iload_n (pc := 54) F dX11_matchOf_54 2 rfl rfl ?_
      obtain ⟨b8, h⟩ := d_ab_some h
      refine u_aldI (v := mo 12 x2.toNatClampNeg) (pc := 55) F dX11_matchOf_55 (hL 11 0 12 (by decide) rfl) rfl b8 (congrFun (congrFun (show σ 11 0 = mo from e_mo) 12) _) ?_
      refine u_aload_n (pc := 56) F dX11_matchOf_56 0 rfl rfl ?_
      refine u_getA (pc := 57) F dX11_matchOf_57 (hL 11 0 0 (by decide) rfl) ck_11 fl_11_34 rfl (by decide) (by decide) ?_
      refine u_bipush (v := 38) (pc := 60) F dX11_matchOf_60 (by decide) ?_
      refine u_iconst (v := 5) (pc := 62) F dX11_matchOf_62 (by decide) ?_
      refine u_iload_n (pc := 63) F dX11_matchOf_63 1 rfl rfl ?_
      refine u_imul (pc := 64) F dX11_matchOf_64 ?_
      refine u_iadd (pc := 65) F dX11_matchOf_65 ?_
      refine u_iload_n (pc := 66) F dX11_matchOf_66 2 rfl rfl ?_
      refine u_iadd (pc := 67) F dX11_matchOf_67 ?_
      obtain ⟨b9, h⟩ := d_ab_some h
      refine u_aldI (v := mo 14 (((38 : Int32) + ((5 : Int32) * x1)) + x2).toNatClampNeg) (pc := 68) F dX11_matchOf_68 (hL 11 0 14 (by decide) rfl) rfl b9 (congrFun (congrFun (show σ 11 0 = mo from e_mo) 14) _) ?_
      refine u_iload (pc := 69) F dX11_matchOf_69 5 rfl ?_
      refine u_iadd (pc := 71) F dX11_matchOf_71 ?_
      refine u_sipush (v := 10000) (pc := 72) F dX11_matchOf_72 (by decide) ?_
      refine u_irem (pc := 75) F dX11_matchOf_75 (by decide) ?_
      obtain ⟨q10, hq10, h⟩ := d_bd_some h
      refine u_callSi (pc := 76) F (As := [.int (mo 12 x2.toNatClampNeg), .int (jrem ((mo 14 (((38 : Int32) + ((5 : Int32) * x1)) + x2).toNatClampNeg) + x6) (10000 : Int32))]) (c_X11_codeOf G hL (mo 12 x2.toNatClampNeg) (jrem ((mo 14 (((38 : Int32) + ((5 : Int32) * x1)) + x2).toNatClampNeg) + x6) (10000 : Int32)) σ q10 hq10) ys_X11_codeOf ml_11_193 (by decide) rfl rfl (Nat.le_of_ble_eq_true rfl) dX11_matchOf_76 ?_
      refine u_iload_n (pc := 79) F dX11_matchOf_79 3 rfl rfl ?_
      refine u_icmp_ne (pc := 80) F 86 dX11_matchOf_80 (by decide) (fun c11 => ?_) (fun c11 => ?_)
      · rw [if_neg c11] at h
        obtain ⟨v12, hv12, h⟩ := d_lt_some h
        refine u_iinc (lv' := [(6, .int v12), (0, .ref (adr G (11, 0, 0))), (1, .int x1), (2, .int x2), (3, .int x3), (5, .int x5)]) (pc := 86) F dX11_matchOf_86 5 rfl hv12.symm hY (by decide) rfl ?_
        refine u_goto (pc := 89) F 43 dX11_matchOf_89 (by decide) ?_
        refine u_lv (lv' := [(0, .ref (adr G (11, 0, 0))), (1, .int x1), (2, .int x2), (3, .int x3), (5, .int x5), (6, .int v12)]) [1, 2, 3, 4, 5, 0] rfl ?_
        exact ih x1 x2 x3 x5 v12 h
      · rw [if_pos c11] at h
        refine u_iload (pc := 83) F dX11_matchOf_83 5 rfl ?_
        have h1 := Option.some.inj h
        subst h1
        exact hR _ _ rfl dX11_matchOf_85
set_option maxHeartbeats 4000000 in
set_option maxRecDepth 100000 in
theorem wX11_matchOf_37 (Y : Dy) (G : G0) (hL : Im G) (σ : Mem) (mo : Grp) (e_mo : σ 11 0 = mo) (F : Fx Y G cX11_matchOf RX11 2) (hY : Y.2.2.2.2.2.2.2.2.2.2.2.1 = 7) (r : Int32) (hR : ∀ (pc : Nat) (lv : List (Nat × Value)), narrow .int (.int r) = .int r → decode cX11_matchOf pc = .ok (.ireturn, 1) → U Y G σ pc lv [.int r]) :
    ∀ (x1 : Int32) (x2 : Int32) (x3 : Int32) (x4 : Int32) (s0 : Int32), fX11_matchOf_37 mo x1 x2 x3 x4 s0 = some r → U Y G σ 37 [(0, .ref (adr G (11, 0, 0))), (1, .int x1), (2, .int x2), (3, .int x3), (4, .int x4)] [.int s0] := by
  intro x1 x2 x3 x4 s0 h
  unfold fX11_matchOf_37 at h
  refine u_istore (lv' := [(5, .int s0), (0, .ref (adr G (11, 0, 0))), (1, .int x1), (2, .int x2), (3, .int x3), (4, .int x4)]) (pc := 37) F dX11_matchOf_37 hY (by decide) rfl ?_
  refine u_iload (pc := 39) F dX11_matchOf_39 5 rfl ?_
  refine u_istore (lv' := [(6, .int x4), (5, .int s0), (0, .ref (adr G (11, 0, 0))), (1, .int x1), (2, .int x2), (3, .int x3), (4, .int x4)]) (pc := 41) F dX11_matchOf_41 hY (by decide) rfl ?_
  refine u_lv (lv' := [(0, .ref (adr G (11, 0, 0))), (1, .int x1), (2, .int x2), (3, .int x3), (5, .int s0), (6, .int x4)]) [2, 3, 4, 5, 1, 0] rfl ?_
  exact wX11_matchOf_43 Y G hL σ mo e_mo F hY r hR 1000 x1 x2 x3 s0 x4 h
set_option maxHeartbeats 4000000 in
set_option maxRecDepth 100000 in
theorem c_X11_matchOf (G : G0) (hL : Im G) (x1 : Int32) (x2 : Int32) (x3 : Int32) (σ : Mem) (mo : Grp) (e_mo : σ 11 0 = mo) (r : Int32) (h : fX11_matchOf mo x1 x2 x3 = some r) :
    CI G yX11_matchOf cX11_matchOf 7 .int 2 [.ref (adr G (11, 0, 0)), .int x1, .int x2, .int x3] σ r σ := by
  refine CI.of (by decide +kernel) (Nat.le_of_ble_eq_true rfl) (fun Y hY F hR => ?_)
  unfold fX11_matchOf at h
  have F : Fx Y G cX11_matchOf RX11 2 := F
  refine u_lv (lv' := [(0, .ref (adr G (11, 0, 0))), (1, .int x1), (2, .int x2), (3, .int x3)]) [0, 1, 2, 3] rfl ?_
  refine u_aload_n (pc := 0) F dX11_matchOf_0 0 rfl rfl ?_
  refine u_getA (pc := 1) F dX11_matchOf_1 (hL 11 0 0 (by decide) rfl) ck_11 fl_11_7 rfl (by decide) (by decide) ?_
  refine u_iload_n (pc := 4) F dX11_matchOf_4 1 rfl rfl ?_
  obtain ⟨b1, h⟩ := d_ab_some h
  refine u_aldI (v := mo 5 x1.toNatClampNeg) (pc := 5) F dX11_matchOf_5 (hL 11 0 5 (by decide) rfl) rfl b1 (congrFun (congrFun (show σ 11 0 = mo from e_mo) 5) _) ?_
  refine u_iconst (v := 2) (pc := 6) F dX11_matchOf_6 (by decide) ?_
  obtain ⟨v2, hv2, h⟩ := d_lt_some h
  suffices hj : U Y G σ 15 [(0, .ref (adr G (11, 0, 0))), (1, .int x1), (2, .int x2), (3, .int x3)] [.int v2] by
    refine u_icmp_ne (pc := 7) F 14 dX11_matchOf_7 (by decide) (fun c3 => ?_) (fun c3 => ?_)
    · rw [if_neg c3] at hv2
      refine u_iconst (v := 1) (pc := 14) F dX11_matchOf_14 (by decide) ?_
      exact u_topi hv2 hj
    · rw [if_pos c3] at hv2
      refine u_iconst (v := 0) (pc := 10) F dX11_matchOf_10 (by decide) ?_
      refine u_goto (pc := 11) F 15 dX11_matchOf_11 (by decide) ?_
      exact u_topi hv2 hj
  refine u_istore (lv' := [(4, .int v2), (0, .ref (adr G (11, 0, 0))), (1, .int x1), (2, .int x2), (3, .int x3)]) (pc := 15) F dX11_matchOf_15 hY (by decide) rfl ?_
  refine u_aload_n (pc := 17) F dX11_matchOf_17 1 rfl rfl ?_
  refine u_getA (pc := 18) F dX11_matchOf_18 (hL 11 0 0 (by decide) rfl) ck_11 fl_11_7 rfl (by decide) (by decide) ?_
  refine u_iload_n (pc := 21) F dX11_matchOf_21 2 rfl rfl ?_
  obtain ⟨b4, h⟩ := d_ab_some h
  refine u_aldI (v := mo 5 x1.toNatClampNeg) (pc := 22) F dX11_matchOf_22 (hL 11 0 5 (by decide) rfl) rfl b4 (congrFun (congrFun (show σ 11 0 = mo from e_mo) 5) _) ?_
  refine u_iconst (v := 1) (pc := 23) F dX11_matchOf_23 (by decide) ?_
  refine u_icmp_ne (pc := 24) F 31 dX11_matchOf_24 (by decide) (fun c5 => ?_) (fun c5 => ?_)
  · rw [if_neg c5] at h
    refine u_aload_n (pc := 31) F dX11_matchOf_31 1 rfl rfl ?_
    refine u_getA (pc := 32) F dX11_matchOf_32 (hL 11 0 0 (by decide) rfl) ck_11 fl_11_16 rfl (by decide) (by decide) ?_
    refine u_iload_n (pc := 35) F dX11_matchOf_35 2 rfl rfl ?_
    obtain ⟨b6, h⟩ := d_ab_some h
    refine u_aldI (v := mo 7 x1.toNatClampNeg) (pc := 36) F dX11_matchOf_36 (hL 11 0 7 (by decide) rfl) rfl b6 (congrFun (congrFun (show σ 11 0 = mo from e_mo) 7) _) ?_
    refine u_lv (lv' := [(0, .ref (adr G (11, 0, 0))), (1, .int x1), (2, .int x2), (3, .int x3), (4, .int v2)]) [1, 2, 3, 4, 0] rfl ?_
    exact wX11_matchOf_37 Y G hL σ mo e_mo F hY r hR x1 x2 x3 v2 (mo 7 x1.toNatClampNeg) h
  · rw [if_pos c5] at h
    refine u_iconst (v := 1) (pc := 27) F dX11_matchOf_27 (by decide) ?_
    refine u_goto (pc := 28) F 37 dX11_matchOf_28 (by decide) ?_
    refine u_lv (lv' := [(0, .ref (adr G (11, 0, 0))), (1, .int x1), (2, .int x2), (3, .int x3), (4, .int v2)]) [1, 2, 3, 4, 0] rfl ?_
    exact wX11_matchOf_37 Y G hL σ mo e_mo F hY r hR x1 x2 x3 v2 (1 : Int32) h
/- RollingCodesModel.isAwaited -/
def fX11_isAwaited (mo : Grp) (x1 : Int32) (x2 : Int32) : Option (Int32) :=
    d_ab ((30 : Int32) + x1) 59 <| d_lt (mo 14 ((30 : Int32) + x1).toNatClampNeg) fun v2 => if v2 = (-1 : Int32) then (some (0 : Int32)) else (d_ab v2 5 <| d_ab ((34 : Int32) + x1) 59 <| d_bd (fX11_codeOf (mo 12 v2.toNatClampNeg) (mo 14 ((34 : Int32) + x1).toNatClampNeg)) fun q6 => if q6 = x2 then (some (1 : Int32)) else (some (0 : Int32)))
set_option maxHeartbeats 4000000 in
set_option maxRecDepth 100000 in
theorem c_X11_isAwaited (G : G0) (hL : Im G) (x1 : Int32) (x2 : Int32) (σ : Mem) (mo : Grp) (e_mo : σ 11 0 = mo) (r : Int32) (h : fX11_isAwaited mo x1 x2 = some r) :
    CI G yX11_isAwaited cX11_isAwaited 4 .boolean 2 [.ref (adr G (11, 0, 0)), .int x1, .int x2] σ r σ := by
  refine CI.of (by decide +kernel) (Nat.le_of_ble_eq_true rfl) (fun Y hY F hR => ?_)
  unfold fX11_isAwaited at h
  have F : Fx Y G cX11_isAwaited RX11 2 := F
  refine u_lv (lv' := [(0, .ref (adr G (11, 0, 0))), (1, .int x1), (2, .int x2)]) [0, 1, 2] rfl ?_
  refine u_aload_n (pc := 0) F dX11_isAwaited_0 0 rfl rfl ?_
  refine u_getA (pc := 1) F dX11_isAwaited_1 (hL 11 0 0 (by decide) rfl) ck_11 fl_11_34 rfl (by decide) (by decide) ?_
  refine u_bipush (v := 30) (pc := 4) F dX11_isAwaited_4 (by decide) ?_
  refine u_iload_n (pc := 6) F dX11_isAwaited_6 1 rfl rfl ?_
  refine u_iadd (pc := 7) F dX11_isAwaited_7 ?_
  obtain ⟨b1, h⟩ := d_ab_some h
  refine u_aldI (v := mo 14 ((30 : Int32) + x1).toNatClampNeg) (pc := 8) F dX11_isAwaited_8 (hL 11 0 14 (by decide) rfl) rfl b1 (congrFun (congrFun (show σ 11 0 = mo from e_mo) 14) _) ?_
  obtain ⟨v2, hv2, h⟩ := d_lt_some h
  refine u_topi hv2 ?_
  refine u_istore_n (lv' := [(3, .int v2), (0, .ref (adr G (11, 0, 0))), (1, .int x1), (2, .int x2)]) (pc := 9) F dX11_isAwaited_9 rfl hY (by decide) rfl ?_
  refine u_iload_n (pc := 10) F dX11_isAwaited_10 0 rfl rfl ?_
  refine u_iconst (v := -1) (pc := 11) F dX11_isAwaited_11 (by decide) ?_
  refine u_icmp_eq (pc := 12) F 41 dX11_isAwaited_12 (by decide) (fun c3 => ?_) (fun c3 => ?_)
  · rw [if_pos c3] at h
    refine u_iconst (v := 0) (pc := 41) F dX11_isAwaited_41 (by decide) ?_
    have h1 := Option.some.inj h
    subst h1
    exact hR _ _ rfl dX11_isAwaited_42
  · rw [if_neg c3] at h
    refine u_aload_n (pc := 15) F dX11_isAwaited_15 1 rfl rfl ?_
    refine u_getA (pc := 16) F dX11_isAwaited_16 (hL 11 0 0 (by decide) rfl) ck_11 fl_11_28 rfl (by decide) (by decide) ?_
    refine u_iload_n (pc := 19) F dX11_isAwaited_19 0 rfl rfl ?_
    obtain ⟨b4, h⟩ := d_ab_some h
    refine u_aldI (v := mo 12 v2.toNatClampNeg) (pc := 20) F dX11_isAwaited_20 (hL 11 0 12 (by decide) rfl) rfl b4 (congrFun (congrFun (show σ 11 0 = mo from e_mo) 12) _) ?_
    refine u_aload_n (pc := 21) F dX11_isAwaited_21 1 rfl rfl ?_
    refine u_getA (pc := 22) F dX11_isAwaited_22 (hL 11 0 0 (by decide) rfl) ck_11 fl_11_34 rfl (by decide) (by decide) ?_
    refine u_bipush (v := 34) (pc := 25) F dX11_isAwaited_25 (by decide) ?_
    refine u_iload_n (pc := 27) F dX11_isAwaited_27 2 rfl rfl ?_
    refine u_iadd (pc := 28) F dX11_isAwaited_28 ?_
    obtain ⟨b5, h⟩ := d_ab_some h
    refine u_aldI (v := mo 14 ((34 : Int32) + x1).toNatClampNeg) (pc := 29) F dX11_isAwaited_29 (hL 11 0 14 (by decide) rfl) rfl b5 (congrFun (congrFun (show σ 11 0 = mo from e_mo) 14) _) ?_
    obtain ⟨q6, hq6, h⟩ := d_bd_some h
    refine u_callSi (pc := 30) F (As := [.int (mo 12 v2.toNatClampNeg), .int (mo 14 ((34 : Int32) + x1).toNatClampNeg)]) (c_X11_codeOf G hL (mo 12 v2.toNatClampNeg) (mo 14 ((34 : Int32) + x1).toNatClampNeg) σ q6 hq6) ys_X11_codeOf ml_11_193 (by decide) rfl rfl (Nat.le_of_ble_eq_true rfl) dX11_isAwaited_30 ?_
    refine u_iload_n (pc := 33) F dX11_isAwaited_33 3 rfl rfl ?_
    refine u_icmp_ne (pc := 34) F 41 dX11_isAwaited_34 (by decide) (fun c7 => ?_) (fun c7 => ?_)
    · rw [if_neg c7] at h
      refine u_iconst (v := 0) (pc := 41) F dX11_isAwaited_41 (by decide) ?_
      have h1 := Option.some.inj h
      subst h1
      exact hR _ _ rfl dX11_isAwaited_42
    · rw [if_pos c7] at h
      refine u_iconst (v := 1) (pc := 37) F dX11_isAwaited_37 (by decide) ?_
      refine u_goto (pc := 38) F 42 dX11_isAwaited_38 (by decide) ?_
      have h1 := Option.some.inj h
      subst h1
      exact hR _ _ rfl dX11_isAwaited_42
/- RollingCodesModel.hears -/
def fX11_hears_172  (mo : Grp) (x6 : Int32) : Option (Int32 × Grp) :=
    if x6 = 0 then (some ((1 : Int32), mo)) else (some ((0 : Int32), mo))
def fX11_hears_127  (mo : Grp) (x1 : Int32) (x3 : Int32) (x5 : Int32) (s0 : Int32) : Option (Int32 × Grp) :=
    if s0 = 0 then (d_bd (fX11_openBy mo x1 x3 x5) fun q10 => fX11_hears_172 q10 s0) else (d_ab ((30 : Int32) + x1) 59 <| d_lt (wr mo 14 ((30 : Int32) + x1).toNatClampNeg x3) fun g13 => d_ab ((34 : Int32) + x1) 59 <| d_lt (wr g13 14 ((34 : Int32) + x1).toNatClampNeg (jrem (x5 + (1 : Int32)) (10000 : Int32))) fun g15 => fX11_hears_172 g15 s0)
def fX11_hears_126  (mo : Grp) (x1 : Int32) (x3 : Int32) (x5 : Int32) : Option (Int32 × Grp) :=
    fX11_hears_127 mo x1 x3 x5 (0 : Int32)
def fX11_hears_77  (mo : Grp) (x1 : Int32) (x3 : Int32) (x4 : Int32) : Option (Int32 × Grp) :=
    if x4 < 0 then (some ((0 : Int32), mo)) else (d_ab (((38 : Int32) + ((5 : Int32) * x1)) + x3) 59 <| d_lt (jrem ((mo 14 (((38 : Int32) + ((5 : Int32) * x1)) + x3).toNatClampNeg) + x4) (10000 : Int32)) fun v6 => d_ab x1 4 <| if (mo 5 x1.toNatClampNeg) = (3 : Int32) then (if x4 ≤ (4 : Int32) then (fX11_hears_126 mo x1 x3 v6) else (fX11_hears_127 mo x1 x3 v6 (1 : Int32))) else (fX11_hears_126 mo x1 x3 v6))
def fX11_hears_39  : Nat → Grp → Int32 → Int32 → Int32 → Int32 → Option (Int32 × Grp)
  | 0, _, _, _, _, _ => none
  | fu + 1, mo, x1, x2, x3, x4 =>
    if x3 < (mo 0 7) then (if x4 < 0 then (d_bd (fX11_matchOf mo x1 x3 x2) fun q18 => d_lt (if q18 < 0 then (1 : Int32) else (0 : Int32)) fun v19 => d_lt (x3 + v19) fun v21 => fX11_hears_39 fu mo x1 x2 v21 q18) else (fX11_hears_77 mo x1 x3 x4)) else (fX11_hears_77 mo x1 x3 x4)
def fX11_hears (mo : Grp) (x1 : Int32) (x2 : Int32) : Option (Int32 × Grp) :=
    d_bd (fX11_isAwaited mo x1 x2) fun q1 => if q1 = 0 then (fX11_hears_39 1000 mo x1 x2 (0 : Int32) (-1 : Int32)) else (d_ab ((30 : Int32) + x1) 59 <| d_ab ((34 : Int32) + x1) 59 <| d_bd (fX11_openBy mo x1 (mo 14 ((30 : Int32) + x1).toNatClampNeg) (mo 14 ((34 : Int32) + x1).toNatClampNeg)) fun q24 => some ((1 : Int32), q24))
set_option maxHeartbeats 4000000 in
set_option maxRecDepth 100000 in
theorem wX11_hears_172 (Y : Dy) (G : G0) (hL : Im G) (σ : Mem) (F : Fx Y G cX11_hears RX11 3) (hY : Y.2.2.2.2.2.2.2.2.2.2.2.1 = 7) (r : Int32) (mo' : Grp) (hR : ∀ (pc : Nat) (lv : List (Nat × Value)), narrow .boolean (.int r) = .int r → decode cX11_hears pc = .ok (.ireturn, 1) → U Y G (upM σ 11 0 (mo')) pc lv [.int r]) :
    ∀ (mo : Grp) (x6 : Int32), fX11_hears_172 mo x6 = some (r, mo') → U Y G (upM σ 11 0 mo) 172 [(6, .int x6)] [] := by
  intro mo x6 h
  unfold fX11_hears_172 at h
  refine u_iload (pc := 172) F dX11_hears_172 0 rfl ?_
  refine u_if_ne (pc := 174) F 181 dX11_hears_174 (by decide) (fun c11 => ?_) (fun c11 => ?_)
  · rw [if_neg c11] at h
    refine u_iconst (v := 0) (pc := 181) F dX11_hears_181 (by decide) ?_
    have h1 := Option.some.inj h
    obtain ⟨hj0, hr0⟩ := Prod.mk.inj h1
    subst hj0
    subst hr0
    exact hR _ _ rfl dX11_hears_182
  · rw [if_pos c11] at h
    refine u_iconst (v := 1) (pc := 177) F dX11_hears_177 (by decide) ?_
    refine u_goto (pc := 178) F 182 dX11_hears_178 (by decide) ?_
    have h1 := Option.some.inj h
    obtain ⟨hj0, hr0⟩ := Prod.mk.inj h1
    subst hj0
    subst hr0
    exact hR _ _ rfl dX11_hears_182
set_option maxHeartbeats 4000000 in
set_option maxRecDepth 100000 in
theorem wX11_hears_127 (Y : Dy) (G : G0) (hL : Im G) (σ : Mem) (F : Fx Y G cX11_hears RX11 3) (hY : Y.2.2.2.2.2.2.2.2.2.2.2.1 = 7) (r : Int32) (mo' : Grp) (hR : ∀ (pc : Nat) (lv : List (Nat × Value)), narrow .boolean (.int r) = .int r → decode cX11_hears pc = .ok (.ireturn, 1) → U Y G (upM σ 11 0 (mo')) pc lv [.int r]) :
    ∀ (mo : Grp) (x1 : Int32) (x3 : Int32) (x5 : Int32) (s0 : Int32), fX11_hears_127 mo x1 x3 x5 s0 = some (r, mo') → U Y G (upM σ 11 0 mo) 127 [(0, .ref (adr G (11, 0, 0))), (1, .int x1), (3, .int x3), (5, .int x5)] [.int s0] := by
  intro mo x1 x3 x5 s0 h
  unfold fX11_hears_127 at h
  refine u_istore (lv' := [(6, .int s0), (0, .ref (adr G (11, 0, 0))), (1, .int x1), (3, .int x3), (5, .int x5)]) (pc := 127) F dX11_hears_127 hY (by decide) rfl ?_
  refine u_iload (pc := 129) F dX11_hears_129 0 rfl ?_
  refine u_if_eq (pc := 131) F 164 dX11_hears_131 (by decide) (fun c9 => ?_) (fun c9 => ?_)
  · rw [if_pos c9] at h
    refine u_aload_n (pc := 164) F dX11_hears_164 1 rfl rfl ?_
    refine u_iload_n (pc := 165) F dX11_hears_165 2 rfl rfl ?_
    refine u_iload_n (pc := 166) F dX11_hears_166 3 rfl rfl ?_
    refine u_iload (pc := 167) F dX11_hears_167 4 rfl ?_
    obtain ⟨q10, hq10, h⟩ := d_bd_some h
    refine u_callv (pc := 169) F (As := [.int x1, .int x3, .int x5]) (c_X11_openBy G hL x1 x3 x5 (upM σ 11 0 mo) mo (upM_same _ _ _ _) q10 hq10) yv_X11_openBy ml_11_200 (hL 11 0 0 (by decide) rfl) rfl (by decide) rfl rfl (Nat.le_of_ble_eq_true rfl) dX11_hears_169 ?_
    refine u_mem (σ2 := (upM σ 11 0 q10)) (by first | (rw [upM_upM]; done) | (rw [upM_mid _ _ _ _ (by decide)]; done) | (rw [upM_mid _ _ _ _ (by decide), upM_upM]; done) | (rw [upM_mid _ _ _ _ (by decide), upM_mid _ _ _ _ (by decide)]; done)) ?_
    refine u_lv (lv' := [(6, .int s0)]) [0] rfl ?_
    exact wX11_hears_172 Y G hL σ F hY r mo' hR q10 s0 h
  · rw [if_neg c9] at h
    refine u_aload_n (pc := 134) F dX11_hears_134 1 rfl rfl ?_
    refine u_getA (pc := 135) F dX11_hears_135 (hL 11 0 0 (by decide) rfl) ck_11 fl_11_34 rfl (by decide) (by decide) ?_
    refine u_bipush (v := 30) (pc := 138) F dX11_hears_138 (by decide) ?_
    refine u_iload_n (pc := 140) F dX11_hears_140 2 rfl rfl ?_
    refine u_iadd (pc := 141) F dX11_hears_141 ?_
    refine u_iload_n (pc := 142) F dX11_hears_142 3 rfl rfl ?_
    obtain ⟨b12, h⟩ := d_ab_some h
    refine u_astI1 (pc := 143) F dX11_hears_143 (hL 11 0 14 (by decide) rfl) rfl b12 ?_
    obtain ⟨g13, hg13, h⟩ := d_lt_some h
    refine u_mem (σ2 := (upM σ 11 0 g13)) (by rw [hg13]) ?_
    refine u_aload_n (pc := 144) F dX11_hears_144 1 rfl rfl ?_
    refine u_getA (pc := 145) F dX11_hears_145 (hL 11 0 0 (by decide) rfl) ck_11 fl_11_34 rfl (by decide) (by decide) ?_
    refine u_bipush (v := 34) (pc := 148) F dX11_hears_148 (by decide) ?_
    refine u_iload_n (pc := 150) F dX11_hears_150 2 rfl rfl ?_
    refine u_iadd (pc := 151) F dX11_hears_151 ?_
    refine u_iload (pc := 152) F dX11_hears_152 4 rfl ?_
    refine u_iconst (v := 1) (pc := 154) F dX11_hears_154 (by decide) ?_
    refine u_iadd (pc := 155) F dX11_hears_155 ?_
    refine u_sipush (v := 10000) (pc := 156) F dX11_hears_156 (by decide) ?_
    refine u_irem (pc := 159) F dX11_hears_159 (by decide) ?_
    obtain ⟨b14, h⟩ := d_ab_some h
    refine u_astI1 (pc := 160) F dX11_hears_160 (hL 11 0 14 (by decide) rfl) rfl b14 ?_
    obtain ⟨g15, hg15, h⟩ := d_lt_some h
    refine u_mem (σ2 := (upM σ 11 0 g15)) (by rw [hg15]) ?_
    refine u_goto (pc := 161) F 172 dX11_hears_161 (by decide) ?_
    refine u_lv (lv' := [(6, .int s0)]) [0] rfl ?_
    exact wX11_hears_172 Y G hL σ F hY r mo' hR g15 s0 h
set_option maxHeartbeats 4000000 in
set_option maxRecDepth 100000 in
theorem wX11_hears_126 (Y : Dy) (G : G0) (hL : Im G) (σ : Mem) (F : Fx Y G cX11_hears RX11 3) (hY : Y.2.2.2.2.2.2.2.2.2.2.2.1 = 7) (r : Int32) (mo' : Grp) (hR : ∀ (pc : Nat) (lv : List (Nat × Value)), narrow .boolean (.int r) = .int r → decode cX11_hears pc = .ok (.ireturn, 1) → U Y G (upM σ 11 0 (mo')) pc lv [.int r]) :
    ∀ (mo : Grp) (x1 : Int32) (x3 : Int32) (x5 : Int32), fX11_hears_126 mo x1 x3 x5 = some (r, mo') → U Y G (upM σ 11 0 mo) 126 [(0, .ref (adr G (11, 0, 0))), (1, .int x1), (3, .int x3), (5, .int x5)] [] := by
  intro mo x1 x3 x5 h
  unfold fX11_hears_126 at h
  refine u_iconst (v := 0) (pc := 126) F dX11_hears_126 (by decide) ?_
  exact wX11_hears_127 Y G hL σ F hY r mo' hR mo x1 x3 x5 (0 : Int32) h
set_option maxHeartbeats 4000000 in
set_option maxRecDepth 100000 in
theorem wX11_hears_77 (Y : Dy) (G : G0) (hL : Im G) (σ : Mem) (F : Fx Y G cX11_hears RX11 3) (hY : Y.2.2.2.2.2.2.2.2.2.2.2.1 = 7) (r : Int32) (mo' : Grp) (hR : ∀ (pc : Nat) (lv : List (Nat × Value)), narrow .boolean (.int r) = .int r → decode cX11_hears pc = .ok (.ireturn, 1) → U Y G (upM σ 11 0 (mo')) pc lv [.int r]) :
    ∀ (mo : Grp) (x1 : Int32) (x3 : Int32) (x4 : Int32), fX11_hears_77 mo x1 x3 x4 = some (r, mo') → U Y G (upM σ 11 0 mo) 77 [(0, .ref (adr G (11, 0, 0))), (1, .int x1), (3, .int x3), (4, .int x4)] [] := by
  intro mo x1 x3 x4 h
  unfold fX11_hears_77 at h
  refine u_iload (pc := 77) F dX11_hears_77 3 rfl ?_
  refine u_if_ge (pc := 79) F 84 dX11_hears_79 (by decide) (fun c4 => ?_) (fun c4 => ?_)
  · rw [if_neg c4] at h
    refine u_aload_n (pc := 84) F dX11_hears_84 0 rfl rfl ?_
    refine u_getA (pc := 85) F dX11_hears_85 (hL 11 0 0 (by decide) rfl) ck_11 fl_11_34 rfl (by decide) (by decide) ?_
    refine u_bipush (v := 38) (pc := 88) F dX11_hears_88 (by decide) ?_
    refine u_iconst (v := 5) (pc := 90) F dX11_hears_90 (by decide) ?_
    refine u_iload_n (pc := 91) F dX11_hears_91 1 rfl rfl ?_
    refine u_imul (pc := 92) F dX11_hears_92 ?_
    refine u_iadd (pc := 93) F dX11_hears_93 ?_
    refine u_iload_n (pc := 94) F dX11_hears_94 2 rfl rfl ?_
    refine u_iadd (pc := 95) F dX11_hears_95 ?_
    obtain ⟨b5, h⟩ := d_ab_some h
    refine u_aldI1 (pc := 96) F dX11_hears_96 (hL 11 0 14 (by decide) rfl) rfl b5 ?_
    refine u_iload (pc := 97) F dX11_hears_97 3 rfl ?_
    refine u_iadd (pc := 99) F dX11_hears_99 ?_
    refine u_sipush (v := 10000) (pc := 100) F dX11_hears_100 (by decide) ?_
    refine u_irem (pc := 103) F dX11_hears_103 (by decide) ?_
    obtain ⟨v6, hv6, h⟩ := d_lt_some h
    refine u_topi hv6 ?_
    refine u_istore (lv' := [(5, .int v6), (0, .ref (adr G (11, 0, 0))), (1, .int x1), (3, .int x3), (4, .int x4)]) (pc := 104) F dX11_hears_104 hY (by decide) rfl ?_
    refine u_aload_n (pc := 106) F dX11_hears_106 1 rfl rfl ?_
    refine u_getA (pc := 107) F dX11_hears_107 (hL 11 0 0 (by decide) rfl) ck_11 fl_11_7 rfl (by decide) (by decide) ?_
    refine u_iload_n (pc := 110) F dX11_hears_110 2 rfl rfl ?_
    obtain ⟨b7, h⟩ := d_ab_some h
    refine u_aldI1 (pc := 111) F dX11_hears_111 (hL 11 0 5 (by decide) rfl) rfl b7 ?_
    refine u_iconst (v := 3) (pc := 112) F dX11_hears_112 (by decide) ?_
    refine u_icmp_ne (pc := 113) F 126 dX11_hears_113 (by decide) (fun c8 => ?_) (fun c8 => ?_)
    · rw [if_neg c8] at h
      refine u_lv (lv' := [(0, .ref (adr G (11, 0, 0))), (1, .int x1), (3, .int x3), (5, .int v6)]) [1, 2, 3, 0] rfl ?_
      exact wX11_hears_126 Y G hL σ F hY r mo' hR mo x1 x3 v6 h
    · rw [if_pos c8] at h
      refine u_iload (pc := 116) F dX11_hears_116 4 rfl ?_
      refine u_iconst (v := 4) (pc := 118) F dX11_hears_118 (by decide) ?_
      refine u_icmp_le (pc := 119) F 126 dX11_hears_119 (by decide) (fun c16 => ?_) (fun c16 => ?_)
      · rw [if_pos c16] at h
        refine u_lv (lv' := [(0, .ref (adr G (11, 0, 0))), (1, .int x1), (3, .int x3), (5, .int v6)]) [1, 2, 3, 0] rfl ?_
        exact wX11_hears_126 Y G hL σ F hY r mo' hR mo x1 x3 v6 h
      · rw [if_neg c16] at h
        refine u_iconst (v := 1) (pc := 122) F dX11_hears_122 (by decide) ?_
        refine u_goto (pc := 123) F 127 dX11_hears_123 (by decide) ?_
        refine u_lv (lv' := [(0, .ref (adr G (11, 0, 0))), (1, .int x1), (3, .int x3), (5, .int v6)]) [1, 2, 3, 0] rfl ?_
        exact wX11_hears_127 Y G hL σ F hY r mo' hR mo x1 x3 v6 (1 : Int32) h
  · rw [if_pos c4] at h
    refine u_iconst (v := 0) (pc := 82) F dX11_hears_82 (by decide) ?_
    have h1 := Option.some.inj h
    obtain ⟨hj0, hr0⟩ := Prod.mk.inj h1
    subst hj0
    subst hr0
    exact hR _ _ rfl dX11_hears_83
set_option maxHeartbeats 4000000 in
set_option maxRecDepth 100000 in
theorem wX11_hears_39 (Y : Dy) (G : G0) (hL : Im G) (σ : Mem) (F : Fx Y G cX11_hears RX11 3) (hY : Y.2.2.2.2.2.2.2.2.2.2.2.1 = 7) (r : Int32) (mo' : Grp) (hR : ∀ (pc : Nat) (lv : List (Nat × Value)), narrow .boolean (.int r) = .int r → decode cX11_hears pc = .ok (.ireturn, 1) → U Y G (upM σ 11 0 (mo')) pc lv [.int r]) :
    ∀ (fu : Nat) (mo : Grp) (x1 : Int32) (x2 : Int32) (x3 : Int32) (x4 : Int32), fX11_hears_39 fu mo x1 x2 x3 x4 = some (r, mo') → U Y G (upM σ 11 0 mo) 39 [(0, .ref (adr G (11, 0, 0))), (1, .int x1), (2, .int x2), (3, .int x3), (4, .int x4)] [] := by
  intro fu
  induction fu with
  | zero =>
    intro mo x1 x2 x3 x4 h
    rw [fX11_hears_39] at h
    cases h
  | succ fu ih =>
    intro mo x1 x2 x3 x4 h
    rw [fX11_hears_39] at h
    refine u_iload_n (pc := 39) F dX11_hears_39 3 rfl rfl ?_
    refine u_aload_n (pc := 40) F dX11_hears_40 0 rfl rfl ?_
    refine u_get1 (pc := 41) F dX11_hears_41 (hL 11 0 0 (by decide) rfl) ck_11 fl_11_102 rfl (by decide) ?_
    refine u_icmp_ge (pc := 44) F 77 dX11_hears_44 (by decide) (fun c3 => ?_) (fun c3 => ?_)
    · rw [if_neg c3] at h
      refine u_lv (lv' := [(0, .ref (adr G (11, 0, 0))), (1, .int x1), (3, .int x3), (4, .int x4)]) [0, 1, 3, 4] rfl ?_
      exact wX11_hears_77 Y G hL σ F hY r mo' hR mo x1 x3 x4 h
    · rw [if_pos c3] at h
      refine u_iload (pc := 47) F dX11_hears_47 4 rfl ?_
      refine u_if_ge (pc := 49) F 77 dX11_hears_49 (by decide) (fun c17 => ?_) (fun c17 => ?_)
      · rw [if_neg c17] at h
        refine u_lv (lv' := [(0, .ref (adr G (11, 0, 0))), (1, .int x1), (3, .int x3), (4, .int x4)]) [0, 1, 3, 4] rfl ?_
        exact wX11_hears_77 Y G hL σ F hY r mo' hR mo x1 x3 x4 h
      · rw [if_pos c17] at h
        refine u_aload_n (pc := 52) F dX11_hears_52 0 rfl rfl ?_
        refine u_iload_n (pc := 53) F dX11_hears_53 1 rfl rfl ?_
        refine u_iload_n (pc := 54) F dX11_hears_54 3 rfl rfl ?_
        refine u_iload_n (pc := 55) F dX11_hears_55 2 rfl rfl ?_
        obtain ⟨q18, hq18, h⟩ := d_bd_some h
        refine u_calli (pc := 56) F (As := [.int x1, .int x3, .int x2]) (c_X11_matchOf G hL x1 x3 x2 (upM σ 11 0 mo) mo (upM_same _ _ _ _) q18 hq18) yv_X11_matchOf ml_11_204 (hL 11 0 0 (by decide) rfl) rfl (by decide) rfl rfl (Nat.le_of_ble_eq_true rfl) dX11_hears_56 ?_
        refine u_istore (lv' := [(4, .int q18), (0, .ref (adr G (11, 0, 0))), (1, .int x1), (2, .int x2), (3, .int x3)]) (pc := 59) F dX11_hears_59 hY (by decide) rfl ?_
        refine u_iload_n (pc := 61) F dX11_hears_61 4 rfl rfl ?_
        refine u_iload (pc := 62) F dX11_hears_62 0 rfl ?_
        obtain ⟨v19, hv19, h⟩ := d_lt_some h
        suffices hj : U Y G (upM σ 11 0 mo) 72 [(4, .int q18), (0, .ref (adr G (11, 0, 0))), (1, .int x1), (2, .int x2), (3, .int x3)] [.int v19, .int x3] by
          refine u_if_ge (pc := 64) F 71 dX11_hears_64 (by decide) (fun c20 => ?_) (fun c20 => ?_)
          · rw [if_neg c20] at hv19
            refine u_iconst (v := 0) (pc := 71) F dX11_hears_71 (by decide) ?_
            exact u_topi hv19 hj
          · rw [if_pos c20] at hv19
            refine u_iconst (v := 1) (pc := 67) F dX11_hears_67 (by decide) ?_
            refine u_goto (pc := 68) F 72 dX11_hears_68 (by decide) ?_
            exact u_topi hv19 hj
        refine u_iadd (pc := 72) F dX11_hears_72 ?_
        obtain ⟨v21, hv21, h⟩ := d_lt_some h
        refine u_topi hv21 ?_
        refine u_istore_n (lv' := [(3, .int v21), (4, .int q18), (0, .ref (adr G (11, 0, 0))), (1, .int x1), (2, .int x2)]) (pc := 73) F dX11_hears_73 rfl hY (by decide) rfl ?_
        refine u_goto (pc := 74) F 39 dX11_hears_74 (by decide) ?_
        refine u_lv (lv' := [(0, .ref (adr G (11, 0, 0))), (1, .int x1), (2, .int x2), (3, .int v21), (4, .int q18)]) [2, 3, 4, 0, 1] rfl ?_
        exact ih mo x1 x2 v21 q18 h
set_option maxHeartbeats 4000000 in
set_option maxRecDepth 100000 in
theorem c_X11_hears (G : G0) (hL : Im G) (x1 : Int32) (x2 : Int32) (σ : Mem) (mo : Grp) (e_mo : σ 11 0 = mo) (r : Int32) (mo' : Grp) (h : fX11_hears mo x1 x2 = some (r, mo')) :
    CI G yX11_hears cX11_hears 7 .boolean 3 [.ref (adr G (11, 0, 0)), .int x1, .int x2] σ r (upM σ 11 0 (mo')) := by
  refine CI.of (by decide +kernel) (Nat.le_of_ble_eq_true rfl) (fun Y hY F hR => ?_)
  unfold fX11_hears at h
  have F : Fx Y G cX11_hears RX11 3 := F
  refine u_mem (σ2 := (upM σ 11 0 mo)) (by rw [← e_mo]; simp only [upM_self]) ?_
  refine u_lv (lv' := [(0, .ref (adr G (11, 0, 0))), (1, .int x1), (2, .int x2)]) [0, 1, 2] rfl ?_
  refine u_aload_n (pc := 0) F dX11_hears_0 0 rfl rfl ?_
  refine u_iload_n (pc := 1) F dX11_hears_1 1 rfl rfl ?_
  refine u_iload_n (pc := 2) F dX11_hears_2 2 rfl rfl ?_
  obtain ⟨q1, hq1, h⟩ := d_bd_some h
  refine u_calli (pc := 3) F (As := [.int x1, .int x2]) (c_X11_isAwaited G hL x1 x2 (upM σ 11 0 mo) mo (upM_same _ _ _ _) q1 hq1) yv_X11_isAwaited ml_11_196 (hL 11 0 0 (by decide) rfl) rfl (by decide) rfl rfl (Nat.le_of_ble_eq_true rfl) dX11_hears_3 ?_
  refine u_if_eq (pc := 6) F 34 dX11_hears_6 (by decide) (fun c2 => ?_) (fun c2 => ?_)
  · rw [if_pos c2] at h
    refine u_iconst (v := 0) (pc := 34) F dX11_hears_34 (by decide) ?_
    refine u_istore_n (lv' := [(3, .int (0 : Int32)), (0, .ref (adr G (11, 0, 0))), (1, .int x1), (2, .int x2)]) (pc := 35) F dX11_hears_35 rfl hY (by decide) rfl ?_
    refine u_iconst (v := -1) (pc := 36) F dX11_hears_36 (by decide) ?_
    refine u_istore (lv' := [(4, .int (-1 : Int32)), (3, .int (0 : Int32)), (0, .ref (adr G (11, 0, 0))), (1, .int x1), (2, .int x2)]) (pc := 37) F dX11_hears_37 hY (by decide) rfl ?_
    refine u_lv (lv' := [(0, .ref (adr G (11, 0, 0))), (1, .int x1), (2, .int x2), (3, .int (0 : Int32)), (4, .int (-1 : Int32))]) [2, 3, 4, 1, 0] rfl ?_
    exact wX11_hears_39 Y G hL σ F hY r mo' hR 1000 mo x1 x2 (0 : Int32) (-1 : Int32) h
  · rw [if_neg c2] at h
    refine u_aload_n (pc := 9) F dX11_hears_9 0 rfl rfl ?_
    refine u_iload_n (pc := 10) F dX11_hears_10 1 rfl rfl ?_
    refine u_aload_n (pc := 11) F dX11_hears_11 0 rfl rfl ?_
    refine u_getA (pc := 12) F dX11_hears_12 (hL 11 0 0 (by decide) rfl) ck_11 fl_11_34 rfl (by decide) (by decide) ?_
    refine u_bipush (v := 30) (pc := 15) F dX11_hears_15 (by decide) ?_
    refine u_iload_n (pc := 17) F dX11_hears_17 1 rfl rfl ?_
    refine u_iadd (pc := 18) F dX11_hears_18 ?_
    obtain ⟨b22, h⟩ := d_ab_some h
    refine u_aldI1 (pc := 19) F dX11_hears_19 (hL 11 0 14 (by decide) rfl) rfl b22 ?_
    refine u_aload_n (pc := 20) F dX11_hears_20 0 rfl rfl ?_
    refine u_getA (pc := 21) F dX11_hears_21 (hL 11 0 0 (by decide) rfl) ck_11 fl_11_34 rfl (by decide) (by decide) ?_
    refine u_bipush (v := 34) (pc := 24) F dX11_hears_24 (by decide) ?_
    refine u_iload_n (pc := 26) F dX11_hears_26 1 rfl rfl ?_
    refine u_iadd (pc := 27) F dX11_hears_27 ?_
    obtain ⟨b23, h⟩ := d_ab_some h
    refine u_aldI1 (pc := 28) F dX11_hears_28 (hL 11 0 14 (by decide) rfl) rfl b23 ?_
    obtain ⟨q24, hq24, h⟩ := d_bd_some h
    refine u_callv (pc := 29) F (As := [.int x1, .int (mo 14 ((30 : Int32) + x1).toNatClampNeg), .int (mo 14 ((34 : Int32) + x1).toNatClampNeg)]) (c_X11_openBy G hL x1 (mo 14 ((30 : Int32) + x1).toNatClampNeg) (mo 14 ((34 : Int32) + x1).toNatClampNeg) (upM σ 11 0 mo) mo (upM_same _ _ _ _) q24 hq24) yv_X11_openBy ml_11_200 (hL 11 0 0 (by decide) rfl) rfl (by decide) rfl rfl (Nat.le_of_ble_eq_true rfl) dX11_hears_29 ?_
    refine u_mem (σ2 := (upM σ 11 0 q24)) (by first | (rw [upM_upM]; done) | (rw [upM_mid _ _ _ _ (by decide)]; done) | (rw [upM_mid _ _ _ _ (by decide), upM_upM]; done) | (rw [upM_mid _ _ _ _ (by decide), upM_mid _ _ _ _ (by decide)]; done)) ?_
    refine u_iconst (v := 1) (pc := 32) F dX11_hears_32 (by decide) ?_
    have h1 := Option.some.inj h
    obtain ⟨hj0, hr0⟩ := Prod.mk.inj h1
    subst hj0
    subst hr0
    exact hR _ _ rfl dX11_hears_33
/- RollingCodesModel.far -/
def fX11_far (x0 : Int32) (x1 : Int32) : Option (Int32) :=
    if x0 ≤ x1 then (some (x1 - x0)) else (some (x0 - x1))
set_option maxHeartbeats 4000000 in
set_option maxRecDepth 100000 in
theorem c_X11_far (G : G0) (hL : Im G) (x0 : Int32) (x1 : Int32) (σ : Mem) (r : Int32) (h : fX11_far x0 x1 = some r) :
    CI G yX11_far cX11_far 2 .int 1 [.int x0, .int x1] σ r σ := by
  refine CI.of (by decide +kernel) (Nat.le_of_ble_eq_true rfl) (fun Y hY F hR => ?_)
  unfold fX11_far at h
  have F : Fx Y G cX11_far RX11 1 := F
  refine u_lv (lv' := [(0, .int x0), (1, .int x1)]) [0, 1] rfl ?_
  refine u_iload_n (pc := 0) F dX11_far_0 0 rfl rfl ?_
  refine u_iload_n (pc := 1) F dX11_far_1 1 rfl rfl ?_
  refine u_icmp_le (pc := 2) F 11 dX11_far_2 (by decide) (fun c1 => ?_) (fun c1 => ?_)
  · rw [if_pos c1] at h
    refine u_iload_n (pc := 11) F dX11_far_11 1 rfl rfl ?_
    refine u_iload_n (pc := 12) F dX11_far_12 0 rfl rfl ?_
    refine u_isub (pc := 13) F dX11_far_13 ?_
    have h1 := Option.some.inj h
    subst h1
    exact hR _ _ rfl dX11_far_14
  · rw [if_neg c1] at h
    refine u_iload_n (pc := 5) F dX11_far_5 0 rfl rfl ?_
    refine u_iload_n (pc := 6) F dX11_far_6 1 rfl rfl ?_
    refine u_isub (pc := 7) F dX11_far_7 ?_
    refine u_goto (pc := 8) F 14 dX11_far_8 (by decide) ?_
    have h1 := Option.some.inj h
    subst h1
    exact hR _ _ rfl dX11_far_14
/- RollingCodesModel.sendFrom -/
def fX11_sendFrom_6  : Nat → Grp → Int32 → Int32 → Int32 → Int32 → Int32 → Option (Int32 × Grp)
  | 0, _, _, _, _, _, _ => none
  | fu + 1, mo, x1, x2, x3, x4, x5 =>
    if x5 < (mo 0 3) then (d_ab (25 : Int32) 59 <| d_bd (fX11_has (mo 14 (25 : Int32).toNatClampNeg) x5) fun q3 => if q3 = 0 then (d_ab x5 4 <| d_bd (fX11_far x1 (mo 6 x5.toNatClampNeg)) fun q13 => if q13 ≤ x2 then (if (1 : Int32) = 0 then (d_lt (x5 + (1 : Int32)) fun v23 => fX11_sendFrom_6 fu mo x1 x2 x3 x4 v23) else (d_bd (fX11_hears mo x5 x3) fun q24 => if q24.1 = 0 then (d_lt (x5 + (1 : Int32)) fun v26 => fX11_sendFrom_6 fu q24.2 x1 x2 x3 x4 v26) else (d_lt (x4 ||| ((1 : Int32) <<< (x5 &&& 31))) fun v27 => d_lt (x5 + (1 : Int32)) fun v28 => fX11_sendFrom_6 fu q24.2 x1 x2 x3 v27 v28))) else (if (0 : Int32) = 0 then (d_lt (x5 + (1 : Int32)) fun v16 => fX11_sendFrom_6 fu mo x1 x2 x3 x4 v16) else (d_bd (fX11_hears mo x5 x3) fun q17 => if q17.1 = 0 then (d_lt (x5 + (1 : Int32)) fun v19 => fX11_sendFrom_6 fu q17.2 x1 x2 x3 x4 v19) else (d_lt (x4 ||| ((1 : Int32) <<< (x5 &&& 31))) fun v20 => d_lt (x5 + (1 : Int32)) fun v21 => fX11_sendFrom_6 fu q17.2 x1 x2 x3 v20 v21)))) else (if (0 : Int32) = 0 then (d_lt (x5 + (1 : Int32)) fun v6 => fX11_sendFrom_6 fu mo x1 x2 x3 x4 v6) else (d_bd (fX11_hears mo x5 x3) fun q7 => if q7.1 = 0 then (d_lt (x5 + (1 : Int32)) fun v9 => fX11_sendFrom_6 fu q7.2 x1 x2 x3 x4 v9) else (d_lt (x4 ||| ((1 : Int32) <<< (x5 &&& 31))) fun v10 => d_lt (x5 + (1 : Int32)) fun v11 => fX11_sendFrom_6 fu q7.2 x1 x2 x3 v10 v11)))) else (some (x4, mo))
def fX11_sendFrom (mo : Grp) (x1 : Int32) (x2 : Int32) (x3 : Int32) : Option (Int32 × Grp) :=
    fX11_sendFrom_6 1000 mo x1 x2 x3 (0 : Int32) (0 : Int32)
set_option maxHeartbeats 4000000 in
set_option maxRecDepth 100000 in
theorem wX11_sendFrom_6 (Y : Dy) (G : G0) (hL : Im G) (σ : Mem) (F : Fx Y G cX11_sendFrom RX11 4) (hY : Y.2.2.2.2.2.2.2.2.2.2.2.1 = 7) (r : Int32) (mo' : Grp) (hR : ∀ (pc : Nat) (lv : List (Nat × Value)), narrow .int (.int r) = .int r → decode cX11_sendFrom pc = .ok (.ireturn, 1) → U Y G (upM σ 11 0 (mo')) pc lv [.int r]) :
    ∀ (fu : Nat) (mo : Grp) (x1 : Int32) (x2 : Int32) (x3 : Int32) (x4 : Int32) (x5 : Int32), fX11_sendFrom_6 fu mo x1 x2 x3 x4 x5 = some (r, mo') → U Y G (upM σ 11 0 mo) 6 [(0, .ref (adr G (11, 0, 0))), (1, .int x1), (2, .int x2), (3, .int x3), (4, .int x4), (5, .int x5)] [] := by
  intro fu
  induction fu with
  | zero =>
    intro mo x1 x2 x3 x4 x5 h
    rw [fX11_sendFrom_6] at h
    cases h
  | succ fu ih =>
    intro mo x1 x2 x3 x4 x5 h
    rw [fX11_sendFrom_6] at h
    refine u_iload (pc := 6) F dX11_sendFrom_6 5 rfl ?_
    refine u_aload_n (pc := 8) F dX11_sendFrom_8 0 rfl rfl ?_
    refine u_get1 (pc := 9) F dX11_sendFrom_9 (hL 11 0 0 (by decide) rfl) ck_11 fl_11_99 rfl (by decide) ?_
    refine u_icmp_ge (pc := 12) F 82 dX11_sendFrom_12 (by decide) (fun c1 => ?_) (fun c1 => ?_)
    · rw [if_neg c1] at h
      refine u_iload (pc := 82) F dX11_sendFrom_82 4 rfl ?_
      have h1 := Option.some.inj h
      obtain ⟨hj0, hr0⟩ := Prod.mk.inj h1
      subst hj0
      subst hr0
      exact hR _ _ rfl dX11_sendFrom_84
    · rw [if_pos c1] at h
      refine u_aload_n (pc := 15) F dX11_sendFrom_15 0 rfl rfl ?_
      refine u_getA (pc := 16) F dX11_sendFrom_16 (hL 11 0 0 (by decide) rfl) ck_11 fl_11_34 rfl (by decide) (by decide) ?_
      refine u_bipush (v := 25) (pc := 19) F dX11_sendFrom_19 (by decide) ?_
      obtain ⟨b2, h⟩ := d_ab_some h
      refine u_aldI1 (pc := 21) F dX11_sendFrom_21 (hL 11 0 14 (by decide) rfl) rfl b2 ?_
      refine u_iload (pc := 22) F dX11_sendFrom_22 5 rfl ?_
      obtain ⟨q3, hq3, h⟩ := d_bd_some h
      refine u_callSi (pc := 24) F (As := [.int (mo 14 (25 : Int32).toNatClampNeg), .int x5]) (c_X11_has G hL (mo 14 (25 : Int32).toNatClampNeg) x5 (upM σ 11 0 mo) q3 hq3) ys_X11_has ml_11_208 (by decide) rfl rfl (Nat.le_of_ble_eq_true rfl) dX11_sendFrom_24 ?_
      refine u_if_ne (pc := 27) F 49 dX11_sendFrom_27 (by decide) (fun c4 => ?_) (fun c4 => ?_)
      · rw [if_neg c4] at h
        refine u_iconst (v := 0) (pc := 49) F dX11_sendFrom_49 (by decide) ?_
        refine u_istore (lv' := [(6, .int (0 : Int32)), (0, .ref (adr G (11, 0, 0))), (1, .int x1), (2, .int x2), (3, .int x3), (4, .int x4), (5, .int x5)]) (pc := 50) F dX11_sendFrom_50 hY (by decide) rfl ?_
        refine u_iload (pc := 52) F dX11_sendFrom_52 0 rfl ?_
        refine u_if_eq (pc := 54) F 76 dX11_sendFrom_54 (by decide) (fun c5 => ?_) (fun c5 => ?_)
        · rw [if_pos c5] at h
          obtain ⟨v6, hv6, h⟩ := d_lt_some h
          refine u_iinc (lv' := [(5, .int v6), (6, .int (0 : Int32)), (0, .ref (adr G (11, 0, 0))), (1, .int x1), (2, .int x2), (3, .int x3), (4, .int x4)]) (pc := 76) F dX11_sendFrom_76 6 rfl hv6.symm hY (by decide) rfl ?_
          refine u_goto (pc := 79) F 6 dX11_sendFrom_79 (by decide) ?_
          refine u_lv (lv' := [(0, .ref (adr G (11, 0, 0))), (1, .int x1), (2, .int x2), (3, .int x3), (4, .int x4), (5, .int v6)]) [2, 3, 4, 5, 6, 0] rfl ?_
          exact ih mo x1 x2 x3 x4 v6 h
        · rw [if_neg c5] at h
          refine u_aload_n (pc := 57) F dX11_sendFrom_57 1 rfl rfl ?_
          refine u_iload (pc := 58) F dX11_sendFrom_58 6 rfl ?_
          refine u_iload_n (pc := 60) F dX11_sendFrom_60 4 rfl rfl ?_
          obtain ⟨q7, hq7, h⟩ := d_bd_some h
          refine u_calli (pc := 61) F (As := [.int x5, .int x3]) (c_X11_hears G hL x5 x3 (upM σ 11 0 mo) mo (upM_same _ _ _ _) q7.1 q7.2 hq7) yv_X11_hears ml_11_214 (hL 11 0 0 (by decide) rfl) rfl (by decide) rfl rfl (Nat.le_of_ble_eq_true rfl) dX11_sendFrom_61 ?_
          refine u_mem (σ2 := (upM σ 11 0 q7.2)) (by first | (rw [upM_upM]; done) | (rw [upM_mid _ _ _ _ (by decide)]; done) | (rw [upM_mid _ _ _ _ (by decide), upM_upM]; done) | (rw [upM_mid _ _ _ _ (by decide), upM_mid _ _ _ _ (by decide)]; done)) ?_
          refine u_if_eq (pc := 64) F 76 dX11_sendFrom_64 (by decide) (fun c8 => ?_) (fun c8 => ?_)
          · rw [if_pos c8] at h
            obtain ⟨v9, hv9, h⟩ := d_lt_some h
            refine u_iinc (lv' := [(5, .int v9), (6, .int (0 : Int32)), (0, .ref (adr G (11, 0, 0))), (1, .int x1), (2, .int x2), (3, .int x3), (4, .int x4)]) (pc := 76) F dX11_sendFrom_76 6 rfl hv9.symm hY (by decide) rfl ?_
            refine u_goto (pc := 79) F 6 dX11_sendFrom_79 (by decide) ?_
            refine u_lv (lv' := [(0, .ref (adr G (11, 0, 0))), (1, .int x1), (2, .int x2), (3, .int x3), (4, .int x4), (5, .int v9)]) [2, 3, 4, 5, 6, 0] rfl ?_
            exact ih q7.2 x1 x2 x3 x4 v9 h
          · rw [if_neg c8] at h
            refine u_iload (pc := 67) F dX11_sendFrom_67 5 rfl ?_
            refine u_iconst (v := 1) (pc := 69) F dX11_sendFrom_69 (by decide) ?_
            refine u_iload (pc := 70) F dX11_sendFrom_70 6 rfl ?_
            refine u_ishl (pc := 72) F dX11_sendFrom_72 ?_
            refine u_ior (pc := 73) F dX11_sendFrom_73 ?_
            obtain ⟨v10, hv10, h⟩ := d_lt_some h
            refine u_topi hv10 ?_
            refine u_istore (lv' := [(4, .int v10), (6, .int (0 : Int32)), (0, .ref (adr G (11, 0, 0))), (1, .int x1), (2, .int x2), (3, .int x3), (5, .int x5)]) (pc := 74) F dX11_sendFrom_74 hY (by decide) rfl ?_
            obtain ⟨v11, hv11, h⟩ := d_lt_some h
            refine u_iinc (lv' := [(5, .int v11), (4, .int v10), (6, .int (0 : Int32)), (0, .ref (adr G (11, 0, 0))), (1, .int x1), (2, .int x2), (3, .int x3)]) (pc := 76) F dX11_sendFrom_76 6 rfl hv11.symm hY (by decide) rfl ?_
            refine u_goto (pc := 79) F 6 dX11_sendFrom_79 (by decide) ?_
            refine u_lv (lv' := [(0, .ref (adr G (11, 0, 0))), (1, .int x1), (2, .int x2), (3, .int x3), (4, .int v10), (5, .int v11)]) [3, 4, 5, 6, 1, 0] rfl ?_
            exact ih q7.2 x1 x2 x3 v10 v11 h
      · rw [if_pos c4] at h
        refine u_iload_n (pc := 30) F dX11_sendFrom_30 1 rfl rfl ?_
        refine u_aload_n (pc := 31) F dX11_sendFrom_31 0 rfl rfl ?_
        refine u_getA (pc := 32) F dX11_sendFrom_32 (hL 11 0 0 (by decide) rfl) ck_11 fl_11_13 rfl (by decide) (by decide) ?_
        refine u_iload (pc := 35) F dX11_sendFrom_35 5 rfl ?_
        obtain ⟨b12, h⟩ := d_ab_some h
        refine u_aldI1 (pc := 37) F dX11_sendFrom_37 (hL 11 0 6 (by decide) rfl) rfl b12 ?_
        obtain ⟨q13, hq13, h⟩ := d_bd_some h
        refine u_callSi (pc := 38) F (As := [.int x1, .int (mo 6 x5.toNatClampNeg)]) (c_X11_far G hL x1 (mo 6 x5.toNatClampNeg) (upM σ 11 0 mo) q13 hq13) ys_X11_far ml_11_211 (by decide) rfl rfl (Nat.le_of_ble_eq_true rfl) dX11_sendFrom_38 ?_
        refine u_iload_n (pc := 41) F dX11_sendFrom_41 2 rfl rfl ?_
        refine u_icmp_gt (pc := 42) F 49 dX11_sendFrom_42 (by decide) (fun c14 => ?_) (fun c14 => ?_)
        · rw [if_neg c14] at h
          refine u_iconst (v := 0) (pc := 49) F dX11_sendFrom_49 (by decide) ?_
          refine u_istore (lv' := [(6, .int (0 : Int32)), (0, .ref (adr G (11, 0, 0))), (1, .int x1), (2, .int x2), (3, .int x3), (4, .int x4), (5, .int x5)]) (pc := 50) F dX11_sendFrom_50 hY (by decide) rfl ?_
          refine u_iload (pc := 52) F dX11_sendFrom_52 0 rfl ?_
          refine u_if_eq (pc := 54) F 76 dX11_sendFrom_54 (by decide) (fun c15 => ?_) (fun c15 => ?_)
          · rw [if_pos c15] at h
            obtain ⟨v16, hv16, h⟩ := d_lt_some h
            refine u_iinc (lv' := [(5, .int v16), (6, .int (0 : Int32)), (0, .ref (adr G (11, 0, 0))), (1, .int x1), (2, .int x2), (3, .int x3), (4, .int x4)]) (pc := 76) F dX11_sendFrom_76 6 rfl hv16.symm hY (by decide) rfl ?_
            refine u_goto (pc := 79) F 6 dX11_sendFrom_79 (by decide) ?_
            refine u_lv (lv' := [(0, .ref (adr G (11, 0, 0))), (1, .int x1), (2, .int x2), (3, .int x3), (4, .int x4), (5, .int v16)]) [2, 3, 4, 5, 6, 0] rfl ?_
            exact ih mo x1 x2 x3 x4 v16 h
          · rw [if_neg c15] at h
            refine u_aload_n (pc := 57) F dX11_sendFrom_57 1 rfl rfl ?_
            refine u_iload (pc := 58) F dX11_sendFrom_58 6 rfl ?_
            refine u_iload_n (pc := 60) F dX11_sendFrom_60 4 rfl rfl ?_
            obtain ⟨q17, hq17, h⟩ := d_bd_some h
            refine u_calli (pc := 61) F (As := [.int x5, .int x3]) (c_X11_hears G hL x5 x3 (upM σ 11 0 mo) mo (upM_same _ _ _ _) q17.1 q17.2 hq17) yv_X11_hears ml_11_214 (hL 11 0 0 (by decide) rfl) rfl (by decide) rfl rfl (Nat.le_of_ble_eq_true rfl) dX11_sendFrom_61 ?_
            refine u_mem (σ2 := (upM σ 11 0 q17.2)) (by first | (rw [upM_upM]; done) | (rw [upM_mid _ _ _ _ (by decide)]; done) | (rw [upM_mid _ _ _ _ (by decide), upM_upM]; done) | (rw [upM_mid _ _ _ _ (by decide), upM_mid _ _ _ _ (by decide)]; done)) ?_
            refine u_if_eq (pc := 64) F 76 dX11_sendFrom_64 (by decide) (fun c18 => ?_) (fun c18 => ?_)
            · rw [if_pos c18] at h
              obtain ⟨v19, hv19, h⟩ := d_lt_some h
              refine u_iinc (lv' := [(5, .int v19), (6, .int (0 : Int32)), (0, .ref (adr G (11, 0, 0))), (1, .int x1), (2, .int x2), (3, .int x3), (4, .int x4)]) (pc := 76) F dX11_sendFrom_76 6 rfl hv19.symm hY (by decide) rfl ?_
              refine u_goto (pc := 79) F 6 dX11_sendFrom_79 (by decide) ?_
              refine u_lv (lv' := [(0, .ref (adr G (11, 0, 0))), (1, .int x1), (2, .int x2), (3, .int x3), (4, .int x4), (5, .int v19)]) [2, 3, 4, 5, 6, 0] rfl ?_
              exact ih q17.2 x1 x2 x3 x4 v19 h
            · rw [if_neg c18] at h
              refine u_iload (pc := 67) F dX11_sendFrom_67 5 rfl ?_
              refine u_iconst (v := 1) (pc := 69) F dX11_sendFrom_69 (by decide) ?_
              refine u_iload (pc := 70) F dX11_sendFrom_70 6 rfl ?_
              refine u_ishl (pc := 72) F dX11_sendFrom_72 ?_
              refine u_ior (pc := 73) F dX11_sendFrom_73 ?_
              obtain ⟨v20, hv20, h⟩ := d_lt_some h
              refine u_topi hv20 ?_
              refine u_istore (lv' := [(4, .int v20), (6, .int (0 : Int32)), (0, .ref (adr G (11, 0, 0))), (1, .int x1), (2, .int x2), (3, .int x3), (5, .int x5)]) (pc := 74) F dX11_sendFrom_74 hY (by decide) rfl ?_
              obtain ⟨v21, hv21, h⟩ := d_lt_some h
              refine u_iinc (lv' := [(5, .int v21), (4, .int v20), (6, .int (0 : Int32)), (0, .ref (adr G (11, 0, 0))), (1, .int x1), (2, .int x2), (3, .int x3)]) (pc := 76) F dX11_sendFrom_76 6 rfl hv21.symm hY (by decide) rfl ?_
              refine u_goto (pc := 79) F 6 dX11_sendFrom_79 (by decide) ?_
              refine u_lv (lv' := [(0, .ref (adr G (11, 0, 0))), (1, .int x1), (2, .int x2), (3, .int x3), (4, .int v20), (5, .int v21)]) [3, 4, 5, 6, 1, 0] rfl ?_
              exact ih q17.2 x1 x2 x3 v20 v21 h
        · rw [if_pos c14] at h
          refine u_iconst (v := 1) (pc := 45) F dX11_sendFrom_45 (by decide) ?_
          refine u_goto (pc := 46) F 50 dX11_sendFrom_46 (by decide) ?_
          refine u_istore (lv' := [(6, .int (1 : Int32)), (0, .ref (adr G (11, 0, 0))), (1, .int x1), (2, .int x2), (3, .int x3), (4, .int x4), (5, .int x5)]) (pc := 50) F dX11_sendFrom_50 hY (by decide) rfl ?_
          refine u_iload (pc := 52) F dX11_sendFrom_52 0 rfl ?_
          refine u_if_eq (pc := 54) F 76 dX11_sendFrom_54 (by decide) (fun c22 => ?_) (fun c22 => ?_)
          · rw [if_pos c22] at h
            obtain ⟨v23, hv23, h⟩ := d_lt_some h
            refine u_iinc (lv' := [(5, .int v23), (6, .int (1 : Int32)), (0, .ref (adr G (11, 0, 0))), (1, .int x1), (2, .int x2), (3, .int x3), (4, .int x4)]) (pc := 76) F dX11_sendFrom_76 6 rfl hv23.symm hY (by decide) rfl ?_
            refine u_goto (pc := 79) F 6 dX11_sendFrom_79 (by decide) ?_
            refine u_lv (lv' := [(0, .ref (adr G (11, 0, 0))), (1, .int x1), (2, .int x2), (3, .int x3), (4, .int x4), (5, .int v23)]) [2, 3, 4, 5, 6, 0] rfl ?_
            exact ih mo x1 x2 x3 x4 v23 h
          · rw [if_neg c22] at h
            refine u_aload_n (pc := 57) F dX11_sendFrom_57 1 rfl rfl ?_
            refine u_iload (pc := 58) F dX11_sendFrom_58 6 rfl ?_
            refine u_iload_n (pc := 60) F dX11_sendFrom_60 4 rfl rfl ?_
            obtain ⟨q24, hq24, h⟩ := d_bd_some h
            refine u_calli (pc := 61) F (As := [.int x5, .int x3]) (c_X11_hears G hL x5 x3 (upM σ 11 0 mo) mo (upM_same _ _ _ _) q24.1 q24.2 hq24) yv_X11_hears ml_11_214 (hL 11 0 0 (by decide) rfl) rfl (by decide) rfl rfl (Nat.le_of_ble_eq_true rfl) dX11_sendFrom_61 ?_
            refine u_mem (σ2 := (upM σ 11 0 q24.2)) (by first | (rw [upM_upM]; done) | (rw [upM_mid _ _ _ _ (by decide)]; done) | (rw [upM_mid _ _ _ _ (by decide), upM_upM]; done) | (rw [upM_mid _ _ _ _ (by decide), upM_mid _ _ _ _ (by decide)]; done)) ?_
            refine u_if_eq (pc := 64) F 76 dX11_sendFrom_64 (by decide) (fun c25 => ?_) (fun c25 => ?_)
            · rw [if_pos c25] at h
              obtain ⟨v26, hv26, h⟩ := d_lt_some h
              refine u_iinc (lv' := [(5, .int v26), (6, .int (1 : Int32)), (0, .ref (adr G (11, 0, 0))), (1, .int x1), (2, .int x2), (3, .int x3), (4, .int x4)]) (pc := 76) F dX11_sendFrom_76 6 rfl hv26.symm hY (by decide) rfl ?_
              refine u_goto (pc := 79) F 6 dX11_sendFrom_79 (by decide) ?_
              refine u_lv (lv' := [(0, .ref (adr G (11, 0, 0))), (1, .int x1), (2, .int x2), (3, .int x3), (4, .int x4), (5, .int v26)]) [2, 3, 4, 5, 6, 0] rfl ?_
              exact ih q24.2 x1 x2 x3 x4 v26 h
            · rw [if_neg c25] at h
              refine u_iload (pc := 67) F dX11_sendFrom_67 5 rfl ?_
              refine u_iconst (v := 1) (pc := 69) F dX11_sendFrom_69 (by decide) ?_
              refine u_iload (pc := 70) F dX11_sendFrom_70 6 rfl ?_
              refine u_ishl (pc := 72) F dX11_sendFrom_72 ?_
              refine u_ior (pc := 73) F dX11_sendFrom_73 ?_
              obtain ⟨v27, hv27, h⟩ := d_lt_some h
              refine u_topi hv27 ?_
              refine u_istore (lv' := [(4, .int v27), (6, .int (1 : Int32)), (0, .ref (adr G (11, 0, 0))), (1, .int x1), (2, .int x2), (3, .int x3), (5, .int x5)]) (pc := 74) F dX11_sendFrom_74 hY (by decide) rfl ?_
              obtain ⟨v28, hv28, h⟩ := d_lt_some h
              refine u_iinc (lv' := [(5, .int v28), (4, .int v27), (6, .int (1 : Int32)), (0, .ref (adr G (11, 0, 0))), (1, .int x1), (2, .int x2), (3, .int x3)]) (pc := 76) F dX11_sendFrom_76 6 rfl hv28.symm hY (by decide) rfl ?_
              refine u_goto (pc := 79) F 6 dX11_sendFrom_79 (by decide) ?_
              refine u_lv (lv' := [(0, .ref (adr G (11, 0, 0))), (1, .int x1), (2, .int x2), (3, .int x3), (4, .int v27), (5, .int v28)]) [3, 4, 5, 6, 1, 0] rfl ?_
              exact ih q24.2 x1 x2 x3 v27 v28 h
set_option maxHeartbeats 4000000 in
set_option maxRecDepth 100000 in
theorem c_X11_sendFrom (G : G0) (hL : Im G) (x1 : Int32) (x2 : Int32) (x3 : Int32) (σ : Mem) (mo : Grp) (e_mo : σ 11 0 = mo) (r : Int32) (mo' : Grp) (h : fX11_sendFrom mo x1 x2 x3 = some (r, mo')) :
    CI G yX11_sendFrom cX11_sendFrom 7 .int 4 [.ref (adr G (11, 0, 0)), .int x1, .int x2, .int x3] σ r (upM σ 11 0 (mo')) := by
  refine CI.of (by decide +kernel) (Nat.le_of_ble_eq_true rfl) (fun Y hY F hR => ?_)
  unfold fX11_sendFrom at h
  have F : Fx Y G cX11_sendFrom RX11 4 := F
  refine u_mem (σ2 := (upM σ 11 0 mo)) (by rw [← e_mo]; simp only [upM_self]) ?_
  refine u_lv (lv' := [(0, .ref (adr G (11, 0, 0))), (1, .int x1), (2, .int x2), (3, .int x3)]) [0, 1, 2, 3] rfl ?_
  refine u_iconst (v := 0) (pc := 0) F dX11_sendFrom_0 (by decide) ?_
  refine u_istore (lv' := [(4, .int (0 : Int32)), (0, .ref (adr G (11, 0, 0))), (1, .int x1), (2, .int x2), (3, .int x3)]) (pc := 1) F dX11_sendFrom_1 hY (by decide) rfl ?_
  refine u_iconst (v := 0) (pc := 3) F dX11_sendFrom_3 (by decide) ?_
  refine u_istore (lv' := [(5, .int (0 : Int32)), (4, .int (0 : Int32)), (0, .ref (adr G (11, 0, 0))), (1, .int x1), (2, .int x2), (3, .int x3)]) (pc := 4) F dX11_sendFrom_4 hY (by decide) rfl ?_
  refine u_lv (lv' := [(0, .ref (adr G (11, 0, 0))), (1, .int x1), (2, .int x2), (3, .int x3), (4, .int (0 : Int32)), (5, .int (0 : Int32))]) [2, 3, 4, 5, 1, 0] rfl ?_
  exact wX11_sendFrom_6 Y G hL σ F hY r mo' hR 1000 mo x1 x2 x3 (0 : Int32) (0 : Int32) h
/- RollingCodesModel.keepCode -/
def fX11_keepCode_3  : Nat → Grp → Int32 → Int32 → Option (Grp)
  | 0, _, _, _ => none
  | fu + 1, mo, x1, x2 =>
    if x2 ≤ 0 then (d_ab (17 : Int32) 59 <| d_lt (wr mo 14 (17 : Int32).toNatClampNeg x1) fun g3 => d_ab (16 : Int32) 59 <| d_ab (16 : Int32) 59 <| if (g3 14 (16 : Int32).toNatClampNeg) < (8 : Int32) then (d_ab (16 : Int32) 59 <| d_lt (wr g3 14 (16 : Int32).toNatClampNeg ((g3 14 (16 : Int32).toNatClampNeg) + (1 : Int32))) fun g10 => some g10) else (d_ab (16 : Int32) 59 <| d_lt (wr g3 14 (16 : Int32).toNatClampNeg ((g3 14 (16 : Int32).toNatClampNeg) + (0 : Int32))) fun g8 => some g8)) else (d_ab (((17 : Int32) + x2) - (1 : Int32)) 59 <| d_ab ((17 : Int32) + x2) 59 <| d_lt (wr mo 14 ((17 : Int32) + x2).toNatClampNeg (mo 14 (((17 : Int32) + x2) - (1 : Int32)).toNatClampNeg)) fun g13 => d_lt (x2 + (-1 : Int32)) fun v14 => fX11_keepCode_3 fu g13 x1 v14)
def fX11_keepCode (mo : Grp) (x1 : Int32) : Option (Grp) :=
    fX11_keepCode_3 1000 mo x1 (7 : Int32)
set_option maxHeartbeats 4000000 in
set_option maxRecDepth 100000 in
theorem wX11_keepCode_3 (Y : Dy) (G : G0) (hL : Im G) (σ : Mem) (F : Fx Y G cX11_keepCode RX11 1) (hY : Y.2.2.2.2.2.2.2.2.2.2.2.1 = 3) (mo' : Grp) (hR : ∀ (pc : Nat) (lv : List (Nat × Value)), decode cX11_keepCode pc = .ok (.return_, 1) → U Y G (upM σ 11 0 (mo')) pc lv []) :
    ∀ (fu : Nat) (mo : Grp) (x1 : Int32) (x2 : Int32), fX11_keepCode_3 fu mo x1 x2 = some mo' → U Y G (upM σ 11 0 mo) 3 [(0, .ref (adr G (11, 0, 0))), (1, .int x1), (2, .int x2)] [] := by
  intro fu
  induction fu with
  | zero =>
    intro mo x1 x2 h
    rw [fX11_keepCode_3] at h
    cases h
  | succ fu ih =>
    intro mo x1 x2 h
    rw [fX11_keepCode_3] at h
    refine u_iload_n (pc := 3) F dX11_keepCode_3 2 rfl rfl ?_
    refine u_if_le (pc := 4) F 33 dX11_keepCode_4 (by decide) (fun c1 => ?_) (fun c1 => ?_)
    · rw [if_pos c1] at h
      refine u_aload_n (pc := 33) F dX11_keepCode_33 0 rfl rfl ?_
      refine u_getA (pc := 34) F dX11_keepCode_34 (hL 11 0 0 (by decide) rfl) ck_11 fl_11_34 rfl (by decide) (by decide) ?_
      refine u_bipush (v := 17) (pc := 37) F dX11_keepCode_37 (by decide) ?_
      refine u_iload_n (pc := 39) F dX11_keepCode_39 1 rfl rfl ?_
      obtain ⟨b2, h⟩ := d_ab_some h
      refine u_astI1 (pc := 40) F dX11_keepCode_40 (hL 11 0 14 (by decide) rfl) rfl b2 ?_
      obtain ⟨g3, hg3, h⟩ := d_lt_some h
      refine u_mem (σ2 := (upM σ 11 0 g3)) (by rw [hg3]) ?_
      refine u_aload_n (pc := 41) F dX11_keepCode_41 0 rfl rfl ?_
      refine u_getA (pc := 42) F dX11_keepCode_42 (hL 11 0 0 (by decide) rfl) ck_11 fl_11_34 rfl (by decide) (by decide) ?_
      refine u_bipush (v := 16) (pc := 45) F dX11_keepCode_45 (by decide) ?_
      refine u_dup2 (pc := 47) F dX11_keepCode_47 rfl rfl ?_
      obtain ⟨b4, h⟩ := d_ab_some h
      refine u_aldI1 (pc := 48) F dX11_keepCode_48 (hL 11 0 14 (by decide) rfl) rfl b4 ?_
      refine u_aload_n (pc := 49) F dX11_keepCode_49 0 rfl rfl ?_
      refine u_getA (pc := 50) F dX11_keepCode_50 (hL 11 0 0 (by decide) rfl) ck_11 fl_11_34 rfl (by decide) (by decide) ?_
      refine u_bipush (v := 16) (pc := 53) F dX11_keepCode_53 (by decide) ?_
      obtain ⟨b5, h⟩ := d_ab_some h
      refine u_aldI1 (pc := 55) F dX11_keepCode_55 (hL 11 0 14 (by decide) rfl) rfl b5 ?_
      refine u_bipush (v := 8) (pc := 56) F dX11_keepCode_56 (by decide) ?_
      refine u_icmp_ge (pc := 58) F 65 dX11_keepCode_58 (by decide) (fun c6 => ?_) (fun c6 => ?_)
      · rw [if_neg c6] at h
        refine u_iconst (v := 0) (pc := 65) F dX11_keepCode_65 (by decide) ?_
        refine u_iadd (pc := 66) F dX11_keepCode_66 ?_
        obtain ⟨b7, h⟩ := d_ab_some h
        refine u_astI1 (pc := 67) F dX11_keepCode_67 (hL 11 0 14 (by decide) rfl) rfl b7 ?_
        obtain ⟨g8, hg8, h⟩ := d_lt_some h
        refine u_mem (σ2 := (upM σ 11 0 g8)) (by rw [hg8]) ?_
        have h1 := Option.some.inj h
        subst h1
        exact hR _ _ dX11_keepCode_68
      · rw [if_pos c6] at h
        refine u_iconst (v := 1) (pc := 61) F dX11_keepCode_61 (by decide) ?_
        refine u_goto (pc := 62) F 66 dX11_keepCode_62 (by decide) ?_
        refine u_iadd (pc := 66) F dX11_keepCode_66 ?_
        obtain ⟨b9, h⟩ := d_ab_some h
        refine u_astI1 (pc := 67) F dX11_keepCode_67 (hL 11 0 14 (by decide) rfl) rfl b9 ?_
        obtain ⟨g10, hg10, h⟩ := d_lt_some h
        refine u_mem (σ2 := (upM σ 11 0 g10)) (by rw [hg10]) ?_
        have h1 := Option.some.inj h
        subst h1
        exact hR _ _ dX11_keepCode_68
    · rw [if_neg c1] at h
      refine u_aload_n (pc := 7) F dX11_keepCode_7 0 rfl rfl ?_
      refine u_getA (pc := 8) F dX11_keepCode_8 (hL 11 0 0 (by decide) rfl) ck_11 fl_11_34 rfl (by decide) (by decide) ?_
      refine u_bipush (v := 17) (pc := 11) F dX11_keepCode_11 (by decide) ?_
      refine u_iload_n (pc := 13) F dX11_keepCode_13 2 rfl rfl ?_
      refine u_iadd (pc := 14) F dX11_keepCode_14 ?_
      refine u_aload_n (pc := 15) F dX11_keepCode_15 0 rfl rfl ?_
      refine u_getA (pc := 16) F dX11_keepCode_16 (hL 11 0 0 (by decide) rfl) ck_11 fl_11_34 rfl (by decide) (by decide) ?_
      refine u_bipush (v := 17) (pc := 19) F dX11_keepCode_19 (by decide) ?_
      refine u_iload_n (pc := 21) F dX11_keepCode_21 2 rfl rfl ?_
      refine u_iadd (pc := 22) F dX11_keepCode_22 ?_
      refine u_iconst (v := 1) (pc := 23) F dX11_keepCode_23 (by decide) ?_
      refine u_isub (pc := 24) F dX11_keepCode_24 ?_
      obtain ⟨b11, h⟩ := d_ab_some h
      refine u_aldI1 (pc := 25) F dX11_keepCode_25 (hL 11 0 14 (by decide) rfl) rfl b11 ?_
      obtain ⟨b12, h⟩ := d_ab_some h
      refine u_astI1 (pc := 26) F dX11_keepCode_26 (hL 11 0 14 (by decide) rfl) rfl b12 ?_
      obtain ⟨g13, hg13, h⟩ := d_lt_some h
      refine u_mem (σ2 := (upM σ 11 0 g13)) (by rw [hg13]) ?_
      obtain ⟨v14, hv14, h⟩ := d_lt_some h
      refine u_iinc (lv' := [(2, .int v14), (0, .ref (adr G (11, 0, 0))), (1, .int x1)]) (pc := 27) F dX11_keepCode_27 2 rfl hv14.symm hY (by decide) rfl ?_
      refine u_goto (pc := 30) F 3 dX11_keepCode_30 (by decide) ?_
      refine u_lv (lv' := [(0, .ref (adr G (11, 0, 0))), (1, .int x1), (2, .int v14)]) [1, 2, 0] rfl ?_
      exact ih g13 x1 v14 h
set_option maxHeartbeats 4000000 in
set_option maxRecDepth 100000 in
theorem c_X11_keepCode (G : G0) (hL : Im G) (x1 : Int32) (σ : Mem) (mo : Grp) (e_mo : σ 11 0 = mo) (mo' : Grp) (h : fX11_keepCode mo x1 = some mo') :
    CV G yX11_keepCode cX11_keepCode 3 1 [.ref (adr G (11, 0, 0)), .int x1] σ (upM σ 11 0 (mo')) := by
  refine CV.of (by decide +kernel) (Nat.le_of_ble_eq_true rfl) (fun Y hY F hR => ?_)
  unfold fX11_keepCode at h
  have F : Fx Y G cX11_keepCode RX11 1 := F
  refine u_mem (σ2 := (upM σ 11 0 mo)) (by rw [← e_mo]; simp only [upM_self]) ?_
  refine u_lv (lv' := [(0, .ref (adr G (11, 0, 0))), (1, .int x1)]) [0, 1] rfl ?_
  refine u_bipush (v := 7) (pc := 0) F dX11_keepCode_0 (by decide) ?_
  refine u_istore_n (lv' := [(2, .int (7 : Int32)), (0, .ref (adr G (11, 0, 0))), (1, .int x1)]) (pc := 2) F dX11_keepCode_2 rfl hY (by decide) rfl ?_
  refine u_lv (lv' := [(0, .ref (adr G (11, 0, 0))), (1, .int x1), (2, .int (7 : Int32))]) [1, 2, 0] rfl ?_
  exact wX11_keepCode_3 Y G hL σ F hY mo' hR 1000 mo x1 (7 : Int32) h
/- RollingCodesModel.sendBy -/
def fX11_sendBy_48  (mo : Grp) (x1 : Int32) (x3 : Int32) (x4 : Int32) (s0 : Int32) : Option (Int32 × Grp) :=
    d_ab x1 59 <| d_ab (15 : Int32) 59 <| d_bd (fX11_far (mo 14 x1.toNatClampNeg) (mo 14 (15 : Int32).toNatClampNeg)) fun q9 => if q9 ≤ s0 then (d_bd (fX11_keepCode mo x3) fun q11 => some (x4, q11)) else (some (x4, mo))
def fX11_sendBy (mo : Grp) (x1 : Int32) (x2 : Int32) : Option (Int32 × Grp) :=
    d_ab x1 5 <| d_ab ((5 : Int32) + x1) 59 <| d_bd (fX11_codeOf (mo 12 x1.toNatClampNeg) (mo 14 ((5 : Int32) + x1).toNatClampNeg)) fun q3 => d_ab x1 59 <| d_bd (fX11_sendFrom mo (mo 14 x1.toNatClampNeg) x2 q3) fun q5 => if x2 ≤ (q5.2 0 2) then (fX11_sendBy_48 q5.2 x1 q3 q5.1 (q5.2 0 2)) else (fX11_sendBy_48 q5.2 x1 q3 q5.1 x2)
set_option maxHeartbeats 4000000 in
set_option maxRecDepth 100000 in
theorem wX11_sendBy_48 (Y : Dy) (G : G0) (hL : Im G) (σ : Mem) (F : Fx Y G cX11_sendBy RX11 5) (hY : Y.2.2.2.2.2.2.2.2.2.2.2.1 = 6) (r : Int32) (mo' : Grp) (hR : ∀ (pc : Nat) (lv : List (Nat × Value)), narrow .int (.int r) = .int r → decode cX11_sendBy pc = .ok (.ireturn, 1) → U Y G (upM σ 11 0 (mo')) pc lv [.int r]) :
    ∀ (mo : Grp) (x1 : Int32) (x3 : Int32) (x4 : Int32) (s0 : Int32), fX11_sendBy_48 mo x1 x3 x4 s0 = some (r, mo') → U Y G (upM σ 11 0 mo) 48 [(0, .ref (adr G (11, 0, 0))), (1, .int x1), (3, .int x3), (4, .int x4)] [.int s0] := by
  intro mo x1 x3 x4 s0 h
  unfold fX11_sendBy_48 at h
  refine u_istore (lv' := [(5, .int s0), (0, .ref (adr G (11, 0, 0))), (1, .int x1), (3, .int x3), (4, .int x4)]) (pc := 48) F dX11_sendBy_48 hY (by decide) rfl ?_
  refine u_aload_n (pc := 50) F dX11_sendBy_50 1 rfl rfl ?_
  refine u_getA (pc := 51) F dX11_sendBy_51 (hL 11 0 0 (by decide) rfl) ck_11 fl_11_34 rfl (by decide) (by decide) ?_
  refine u_iload_n (pc := 54) F dX11_sendBy_54 2 rfl rfl ?_
  obtain ⟨b7, h⟩ := d_ab_some h
  refine u_aldI1 (pc := 55) F dX11_sendBy_55 (hL 11 0 14 (by decide) rfl) rfl b7 ?_
  refine u_aload_n (pc := 56) F dX11_sendBy_56 1 rfl rfl ?_
  refine u_getA (pc := 57) F dX11_sendBy_57 (hL 11 0 0 (by decide) rfl) ck_11 fl_11_34 rfl (by decide) (by decide) ?_
  refine u_bipush (v := 15) (pc := 60) F dX11_sendBy_60 (by decide) ?_
  obtain ⟨b8, h⟩ := d_ab_some h
  refine u_aldI1 (pc := 62) F dX11_sendBy_62 (hL 11 0 14 (by decide) rfl) rfl b8 ?_
  obtain ⟨q9, hq9, h⟩ := d_bd_some h
  refine u_callSi (pc := 63) F (As := [.int (mo 14 x1.toNatClampNeg), .int (mo 14 (15 : Int32).toNatClampNeg)]) (c_X11_far G hL (mo 14 x1.toNatClampNeg) (mo 14 (15 : Int32).toNatClampNeg) (upM σ 11 0 mo) q9 hq9) ys_X11_far ml_11_211 (by decide) rfl rfl (Nat.le_of_ble_eq_true rfl) dX11_sendBy_63 ?_
  refine u_iload (pc := 66) F dX11_sendBy_66 0 rfl ?_
  refine u_icmp_gt (pc := 68) F 76 dX11_sendBy_68 (by decide) (fun c10 => ?_) (fun c10 => ?_)
  · rw [if_neg c10] at h
    refine u_iload (pc := 76) F dX11_sendBy_76 4 rfl ?_
    have h1 := Option.some.inj h
    obtain ⟨hj0, hr0⟩ := Prod.mk.inj h1
    subst hj0
    subst hr0
    exact hR _ _ rfl dX11_sendBy_78
  · rw [if_pos c10] at h
    refine u_aload_n (pc := 71) F dX11_sendBy_71 1 rfl rfl ?_
    refine u_iload_n (pc := 72) F dX11_sendBy_72 3 rfl rfl ?_
    obtain ⟨q11, hq11, h⟩ := d_bd_some h
    refine u_callv (pc := 73) F (As := [.int x3]) (c_X11_keepCode G hL x3 (upM σ 11 0 mo) mo (upM_same _ _ _ _) q11 hq11) yv_X11_keepCode ml_11_220 (hL 11 0 0 (by decide) rfl) rfl (by decide) rfl rfl (Nat.le_of_ble_eq_true rfl) dX11_sendBy_73 ?_
    refine u_mem (σ2 := (upM σ 11 0 q11)) (by first | (rw [upM_upM]; done) | (rw [upM_mid _ _ _ _ (by decide)]; done) | (rw [upM_mid _ _ _ _ (by decide), upM_upM]; done) | (rw [upM_mid _ _ _ _ (by decide), upM_mid _ _ _ _ (by decide)]; done)) ?_
    refine u_iload (pc := 76) F dX11_sendBy_76 4 rfl ?_
    have h1 := Option.some.inj h
    obtain ⟨hj0, hr0⟩ := Prod.mk.inj h1
    subst hj0
    subst hr0
    exact hR _ _ rfl dX11_sendBy_78
set_option maxHeartbeats 4000000 in
set_option maxRecDepth 100000 in
theorem c_X11_sendBy (G : G0) (hL : Im G) (x1 : Int32) (x2 : Int32) (σ : Mem) (mo : Grp) (e_mo : σ 11 0 = mo) (r : Int32) (mo' : Grp) (h : fX11_sendBy mo x1 x2 = some (r, mo')) :
    CI G yX11_sendBy cX11_sendBy 6 .int 5 [.ref (adr G (11, 0, 0)), .int x1, .int x2] σ r (upM σ 11 0 (mo')) := by
  refine CI.of (by decide +kernel) (Nat.le_of_ble_eq_true rfl) (fun Y hY F hR => ?_)
  unfold fX11_sendBy at h
  have F : Fx Y G cX11_sendBy RX11 5 := F
  refine u_mem (σ2 := (upM σ 11 0 mo)) (by rw [← e_mo]; simp only [upM_self]) ?_
  refine u_lv (lv' := [(0, .ref (adr G (11, 0, 0))), (1, .int x1), (2, .int x2)]) [0, 1, 2] rfl ?_
  refine u_aload_n (pc := 0) F dX11_sendBy_0 0 rfl rfl ?_
  refine u_getA (pc := 1) F dX11_sendBy_1 (hL 11 0 0 (by decide) rfl) ck_11 fl_11_28 rfl (by decide) (by decide) ?_
  refine u_iload_n (pc := 4) F dX11_sendBy_4 1 rfl rfl ?_
  obtain ⟨b1, h⟩ := d_ab_some h
  refine u_aldI1 (pc := 5) F dX11_sendBy_5 (hL 11 0 12 (by decide) rfl) rfl b1 ?_
  refine u_aload_n (pc := 6) F dX11_sendBy_6 0 rfl rfl ?_
  refine u_getA (pc := 7) F dX11_sendBy_7 (hL 11 0 0 (by decide) rfl) ck_11 fl_11_34 rfl (by decide) (by decide) ?_
  refine u_iconst (v := 5) (pc := 10) F dX11_sendBy_10 (by decide) ?_
  refine u_iload_n (pc := 11) F dX11_sendBy_11 1 rfl rfl ?_
  refine u_iadd (pc := 12) F dX11_sendBy_12 ?_
  obtain ⟨b2, h⟩ := d_ab_some h
  refine u_aldI1 (pc := 13) F dX11_sendBy_13 (hL 11 0 14 (by decide) rfl) rfl b2 ?_
  obtain ⟨q3, hq3, h⟩ := d_bd_some h
  refine u_callSi (pc := 14) F (As := [.int (mo 12 x1.toNatClampNeg), .int (mo 14 ((5 : Int32) + x1).toNatClampNeg)]) (c_X11_codeOf G hL (mo 12 x1.toNatClampNeg) (mo 14 ((5 : Int32) + x1).toNatClampNeg) (upM σ 11 0 mo) q3 hq3) ys_X11_codeOf ml_11_193 (by decide) rfl rfl (Nat.le_of_ble_eq_true rfl) dX11_sendBy_14 ?_
  refine u_istore_n (lv' := [(3, .int q3), (0, .ref (adr G (11, 0, 0))), (1, .int x1), (2, .int x2)]) (pc := 17) F dX11_sendBy_17 rfl hY (by decide) rfl ?_
  refine u_aload_n (pc := 18) F dX11_sendBy_18 1 rfl rfl ?_
  refine u_aload_n (pc := 19) F dX11_sendBy_19 1 rfl rfl ?_
  refine u_getA (pc := 20) F dX11_sendBy_20 (hL 11 0 0 (by decide) rfl) ck_11 fl_11_34 rfl (by decide) (by decide) ?_
  refine u_iload_n (pc := 23) F dX11_sendBy_23 2 rfl rfl ?_
  obtain ⟨b4, h⟩ := d_ab_some h
  refine u_aldI1 (pc := 24) F dX11_sendBy_24 (hL 11 0 14 (by decide) rfl) rfl b4 ?_
  refine u_iload_n (pc := 25) F dX11_sendBy_25 3 rfl rfl ?_
  refine u_iload_n (pc := 26) F dX11_sendBy_26 0 rfl rfl ?_
  obtain ⟨q5, hq5, h⟩ := d_bd_some h
  refine u_calli (pc := 27) F (As := [.int (mo 14 x1.toNatClampNeg), .int x2, .int q3]) (c_X11_sendFrom G hL (mo 14 x1.toNatClampNeg) x2 q3 (upM σ 11 0 mo) mo (upM_same _ _ _ _) q5.1 q5.2 hq5) yv_X11_sendFrom ml_11_217 (hL 11 0 0 (by decide) rfl) rfl (by decide) rfl rfl (Nat.le_of_ble_eq_true rfl) dX11_sendBy_27 ?_
  refine u_mem (σ2 := (upM σ 11 0 q5.2)) (by first | (rw [upM_upM]; done) | (rw [upM_mid _ _ _ _ (by decide)]; done) | (rw [upM_mid _ _ _ _ (by decide), upM_upM]; done) | (rw [upM_mid _ _ _ _ (by decide), upM_mid _ _ _ _ (by decide)]; done)) ?_
  refine u_istore (lv' := [(4, .int q5.1), (3, .int q3), (0, .ref (adr G (11, 0, 0))), (1, .int x1), (2, .int x2)]) (pc := 30) F dX11_sendBy_30 hY (by decide) rfl ?_
  refine u_iload_n (pc := 32) F dX11_sendBy_32 4 rfl rfl ?_
  refine u_aload_n (pc := 33) F dX11_sendBy_33 2 rfl rfl ?_
  refine u_get1 (pc := 34) F dX11_sendBy_34 (hL 11 0 0 (by decide) rfl) ck_11 fl_11_166 rfl (by decide) ?_
  refine u_icmp_le (pc := 37) F 44 dX11_sendBy_37 (by decide) (fun c6 => ?_) (fun c6 => ?_)
  · rw [if_pos c6] at h
    refine u_aload_n (pc := 44) F dX11_sendBy_44 2 rfl rfl ?_
    refine u_get1 (pc := 45) F dX11_sendBy_45 (hL 11 0 0 (by decide) rfl) ck_11 fl_11_166 rfl (by decide) ?_
    refine u_lv (lv' := [(0, .ref (adr G (11, 0, 0))), (1, .int x1), (3, .int q3), (4, .int q5.1)]) [2, 3, 1, 0] rfl ?_
    exact wX11_sendBy_48 Y G hL σ F hY r mo' hR q5.2 x1 q3 q5.1 (q5.2 0 2) h
  · rw [if_neg c6] at h
    refine u_iload_n (pc := 40) F dX11_sendBy_40 4 rfl rfl ?_
    refine u_goto (pc := 41) F 48 dX11_sendBy_41 (by decide) ?_
    refine u_lv (lv' := [(0, .ref (adr G (11, 0, 0))), (1, .int x1), (3, .int q3), (4, .int q5.1)]) [2, 3, 1, 0] rfl ?_
    exact wX11_sendBy_48 Y G hL σ F hY r mo' hR q5.2 x1 q3 q5.1 x2 h
/- RollingCodesModel.stepOn -/
def fX11_stepOn (mo : Grp) (x1 : Int32) : Option (Grp) :=
    d_ab x1 5 <| if (mo 9 x1.toNatClampNeg) = (3 : Int32) then (d_ab ((5 : Int32) + x1) 59 <| d_ab ((5 : Int32) + x1) 59 <| d_lt (wr mo 14 ((5 : Int32) + x1).toNatClampNeg (mo 14 ((5 : Int32) + x1).toNatClampNeg)) fun g8 => some g8) else (d_ab ((5 : Int32) + x1) 59 <| d_ab ((5 : Int32) + x1) 59 <| d_lt (wr mo 14 ((5 : Int32) + x1).toNatClampNeg (jrem ((mo 14 ((5 : Int32) + x1).toNatClampNeg) + (1 : Int32)) (10000 : Int32))) fun g5 => some g5)
set_option maxHeartbeats 4000000 in
set_option maxRecDepth 100000 in
theorem c_X11_stepOn (G : G0) (hL : Im G) (x1 : Int32) (σ : Mem) (mo : Grp) (e_mo : σ 11 0 = mo) (mo' : Grp) (h : fX11_stepOn mo x1 = some mo') :
    CV G yX11_stepOn cX11_stepOn 2 1 [.ref (adr G (11, 0, 0)), .int x1] σ (upM σ 11 0 (mo')) := by
  refine CV.of (by decide +kernel) (Nat.le_of_ble_eq_true rfl) (fun Y hY F hR => ?_)
  unfold fX11_stepOn at h
  have F : Fx Y G cX11_stepOn RX11 1 := F
  refine u_mem (σ2 := (upM σ 11 0 mo)) (by rw [← e_mo]; simp only [upM_self]) ?_
  refine u_lv (lv' := [(0, .ref (adr G (11, 0, 0))), (1, .int x1)]) [0, 1] rfl ?_
  refine u_aload_n (pc := 0) F dX11_stepOn_0 0 rfl rfl ?_
  refine u_getA (pc := 1) F dX11_stepOn_1 (hL 11 0 0 (by decide) rfl) ck_11 fl_11_34 rfl (by decide) (by decide) ?_
  refine u_iconst (v := 5) (pc := 4) F dX11_stepOn_4 (by decide) ?_
  refine u_iload_n (pc := 5) F dX11_stepOn_5 1 rfl rfl ?_
  refine u_iadd (pc := 6) F dX11_stepOn_6 ?_
  refine u_aload_n (pc := 7) F dX11_stepOn_7 0 rfl rfl ?_
  refine u_getA (pc := 8) F dX11_stepOn_8 (hL 11 0 0 (by decide) rfl) ck_11 fl_11_19 rfl (by decide) (by decide) ?_
  refine u_iload_n (pc := 11) F dX11_stepOn_11 1 rfl rfl ?_
  obtain ⟨b1, h⟩ := d_ab_some h
  refine u_aldI1 (pc := 12) F dX11_stepOn_12 (hL 11 0 9 (by decide) rfl) rfl b1 ?_
  refine u_iconst (v := 3) (pc := 13) F dX11_stepOn_13 (by decide) ?_
  refine u_icmp_ne (pc := 14) F 28 dX11_stepOn_14 (by decide) (fun c2 => ?_) (fun c2 => ?_)
  · rw [if_neg c2] at h
    refine u_aload_n (pc := 28) F dX11_stepOn_28 0 rfl rfl ?_
    refine u_getA (pc := 29) F dX11_stepOn_29 (hL 11 0 0 (by decide) rfl) ck_11 fl_11_34 rfl (by decide) (by decide) ?_
    refine u_iconst (v := 5) (pc := 32) F dX11_stepOn_32 (by decide) ?_
    refine u_iload_n (pc := 33) F dX11_stepOn_33 1 rfl rfl ?_
    refine u_iadd (pc := 34) F dX11_stepOn_34 ?_
    obtain ⟨b3, h⟩ := d_ab_some h
    refine u_aldI1 (pc := 35) F dX11_stepOn_35 (hL 11 0 14 (by decide) rfl) rfl b3 ?_
    refine u_iconst (v := 1) (pc := 36) F dX11_stepOn_36 (by decide) ?_
    refine u_iadd (pc := 37) F dX11_stepOn_37 ?_
    refine u_sipush (v := 10000) (pc := 38) F dX11_stepOn_38 (by decide) ?_
    refine u_irem (pc := 41) F dX11_stepOn_41 (by decide) ?_
    obtain ⟨b4, h⟩ := d_ab_some h
    refine u_astI1 (pc := 42) F dX11_stepOn_42 (hL 11 0 14 (by decide) rfl) rfl b4 ?_
    obtain ⟨g5, hg5, h⟩ := d_lt_some h
    refine u_mem (σ2 := (upM σ 11 0 g5)) (by rw [hg5]) ?_
    have h1 := Option.some.inj h
    subst h1
    exact hR _ _ dX11_stepOn_43
  · rw [if_pos c2] at h
    refine u_aload_n (pc := 17) F dX11_stepOn_17 0 rfl rfl ?_
    refine u_getA (pc := 18) F dX11_stepOn_18 (hL 11 0 0 (by decide) rfl) ck_11 fl_11_34 rfl (by decide) (by decide) ?_
    refine u_iconst (v := 5) (pc := 21) F dX11_stepOn_21 (by decide) ?_
    refine u_iload_n (pc := 22) F dX11_stepOn_22 1 rfl rfl ?_
    refine u_iadd (pc := 23) F dX11_stepOn_23 ?_
    obtain ⟨b6, h⟩ := d_ab_some h
    refine u_aldI1 (pc := 24) F dX11_stepOn_24 (hL 11 0 14 (by decide) rfl) rfl b6 ?_
    refine u_goto (pc := 25) F 42 dX11_stepOn_25 (by decide) ?_
    obtain ⟨b7, h⟩ := d_ab_some h
    refine u_astI1 (pc := 42) F dX11_stepOn_42 (hL 11 0 14 (by decide) rfl) rfl b7 ?_
    obtain ⟨g8, hg8, h⟩ := d_lt_some h
    refine u_mem (σ2 := (upM σ 11 0 g8)) (by rw [hg8]) ?_
    have h1 := Option.some.inj h
    subst h1
    exact hR _ _ dX11_stepOn_43
/- RollingCodesModel.pressNow -/
def fX11_pressNow_64  (mo : Grp) (x1 : Int32) (s0 : Int32) : Option (Int32 × Grp) :=
    d_bd (fX11_stepOn mo x1) fun q8 => d_bd (fX11_sendBy q8 x1 s0) fun q9 => d_ab x1 5 <| if (q9.2 9 x1.toNatClampNeg) = (1 : Int32) then (d_bd (fX11_stepOn q9.2 x1) fun q12 => d_bd (fX11_sendBy q12 x1 s0) fun q13 => d_lt (q9.1 ||| q13.1) fun v14 => some (v14, q13.2)) else (some (q9.1, q9.2))
def fX11_pressNow_42  (mo : Grp) (x1 : Int32) (s0 : Int32) : Option (Int32 × Grp) :=
    if s0 = 0 then (d_ab x1 5 <| fX11_pressNow_64 mo x1 (mo 11 x1.toNatClampNeg)) else (d_ab x1 5 <| fX11_pressNow_64 mo x1 ((mo 11 x1.toNatClampNeg) / (2 : Int32)))
def fX11_pressNow_41  (mo : Grp) (x1 : Int32) : Option (Int32 × Grp) :=
    fX11_pressNow_42 mo x1 (0 : Int32)
def fX11_pressNow (mo : Grp) (x1 : Int32) : Option (Int32 × Grp) :=
    d_ab ((10 : Int32) + x1) 59 <| d_ab ((10 : Int32) + x1) 59 <| d_lt (wr mo 14 ((10 : Int32) + x1).toNatClampNeg ((mo 14 ((10 : Int32) + x1).toNatClampNeg) - (1 : Int32))) fun g3 => d_ab x1 5 <| if (g3 9 x1.toNatClampNeg) = (2 : Int32) then (d_ab ((10 : Int32) + x1) 59 <| if (g3 14 ((10 : Int32) + x1).toNatClampNeg) < (20 : Int32) then (fX11_pressNow_42 g3 x1 (1 : Int32)) else (fX11_pressNow_41 g3 x1)) else (fX11_pressNow_41 g3 x1)
set_option maxHeartbeats 4000000 in
set_option maxRecDepth 100000 in
theorem wX11_pressNow_64 (Y : Dy) (G : G0) (hL : Im G) (σ : Mem) (F : Fx Y G cX11_pressNow RX11 6) (hY : Y.2.2.2.2.2.2.2.2.2.2.2.1 = 5) (r : Int32) (mo' : Grp) (hR : ∀ (pc : Nat) (lv : List (Nat × Value)), narrow .int (.int r) = .int r → decode cX11_pressNow pc = .ok (.ireturn, 1) → U Y G (upM σ 11 0 (mo')) pc lv [.int r]) :
    ∀ (mo : Grp) (x1 : Int32) (s0 : Int32), fX11_pressNow_64 mo x1 s0 = some (r, mo') → U Y G (upM σ 11 0 mo) 64 [(0, .ref (adr G (11, 0, 0))), (1, .int x1)] [.int s0] := by
  intro mo x1 s0 h
  unfold fX11_pressNow_64 at h
  refine u_istore_n (lv' := [(3, .int s0), (0, .ref (adr G (11, 0, 0))), (1, .int x1)]) (pc := 64) F dX11_pressNow_64 rfl hY (by decide) rfl ?_
  refine u_aload_n (pc := 65) F dX11_pressNow_65 1 rfl rfl ?_
  refine u_iload_n (pc := 66) F dX11_pressNow_66 2 rfl rfl ?_
  obtain ⟨q8, hq8, h⟩ := d_bd_some h
  refine u_callv (pc := 67) F (As := [.int x1]) (c_X11_stepOn G hL x1 (upM σ 11 0 mo) mo (upM_same _ _ _ _) q8 hq8) yv_X11_stepOn ml_11_224 (hL 11 0 0 (by decide) rfl) rfl (by decide) rfl rfl (Nat.le_of_ble_eq_true rfl) dX11_pressNow_67 ?_
  refine u_mem (σ2 := (upM σ 11 0 q8)) (by first | (rw [upM_upM]; done) | (rw [upM_mid _ _ _ _ (by decide)]; done) | (rw [upM_mid _ _ _ _ (by decide), upM_upM]; done) | (rw [upM_mid _ _ _ _ (by decide), upM_mid _ _ _ _ (by decide)]; done)) ?_
  refine u_aload_n (pc := 70) F dX11_pressNow_70 1 rfl rfl ?_
  refine u_iload_n (pc := 71) F dX11_pressNow_71 2 rfl rfl ?_
  refine u_iload_n (pc := 72) F dX11_pressNow_72 0 rfl rfl ?_
  obtain ⟨q9, hq9, h⟩ := d_bd_some h
  refine u_calli (pc := 73) F (As := [.int x1, .int s0]) (c_X11_sendBy G hL x1 s0 (upM σ 11 0 q8) q8 (upM_same _ _ _ _) q9.1 q9.2 hq9) yv_X11_sendBy ml_11_227 (hL 11 0 0 (by decide) rfl) rfl (by decide) rfl rfl (Nat.le_of_ble_eq_true rfl) dX11_pressNow_73 ?_
  refine u_mem (σ2 := (upM σ 11 0 q9.2)) (by first | (rw [upM_upM]; done) | (rw [upM_mid _ _ _ _ (by decide)]; done) | (rw [upM_mid _ _ _ _ (by decide), upM_upM]; done) | (rw [upM_mid _ _ _ _ (by decide), upM_mid _ _ _ _ (by decide)]; done)) ?_
  refine u_istore (lv' := [(4, .int q9.1), (3, .int s0), (0, .ref (adr G (11, 0, 0))), (1, .int x1)]) (pc := 76) F dX11_pressNow_76 hY (by decide) rfl ?_
  refine u_aload_n (pc := 78) F dX11_pressNow_78 2 rfl rfl ?_
  refine u_getA (pc := 79) F dX11_pressNow_79 (hL 11 0 0 (by decide) rfl) ck_11 fl_11_19 rfl (by decide) (by decide) ?_
  refine u_iload_n (pc := 82) F dX11_pressNow_82 3 rfl rfl ?_
  obtain ⟨b10, h⟩ := d_ab_some h
  refine u_aldI1 (pc := 83) F dX11_pressNow_83 (hL 11 0 9 (by decide) rfl) rfl b10 ?_
  refine u_iconst (v := 1) (pc := 84) F dX11_pressNow_84 (by decide) ?_
  refine u_icmp_ne (pc := 85) F 104 dX11_pressNow_85 (by decide) (fun c11 => ?_) (fun c11 => ?_)
  · rw [if_neg c11] at h
    refine u_iload (pc := 104) F dX11_pressNow_104 0 rfl ?_
    have h1 := Option.some.inj h
    obtain ⟨hj0, hr0⟩ := Prod.mk.inj h1
    subst hj0
    subst hr0
    exact hR _ _ rfl dX11_pressNow_106
  · rw [if_pos c11] at h
    refine u_aload_n (pc := 88) F dX11_pressNow_88 2 rfl rfl ?_
    refine u_iload_n (pc := 89) F dX11_pressNow_89 3 rfl rfl ?_
    obtain ⟨q12, hq12, h⟩ := d_bd_some h
    refine u_callv (pc := 90) F (As := [.int x1]) (c_X11_stepOn G hL x1 (upM σ 11 0 q9.2) q9.2 (upM_same _ _ _ _) q12 hq12) yv_X11_stepOn ml_11_224 (hL 11 0 0 (by decide) rfl) rfl (by decide) rfl rfl (Nat.le_of_ble_eq_true rfl) dX11_pressNow_90 ?_
    refine u_mem (σ2 := (upM σ 11 0 q12)) (by first | (rw [upM_upM]; done) | (rw [upM_mid _ _ _ _ (by decide)]; done) | (rw [upM_mid _ _ _ _ (by decide), upM_upM]; done) | (rw [upM_mid _ _ _ _ (by decide), upM_mid _ _ _ _ (by decide)]; done)) ?_
    refine u_iload (pc := 93) F dX11_pressNow_93 0 rfl ?_
    refine u_aload_n (pc := 95) F dX11_pressNow_95 2 rfl rfl ?_
    refine u_iload_n (pc := 96) F dX11_pressNow_96 3 rfl rfl ?_
    refine u_iload_n (pc := 97) F dX11_pressNow_97 1 rfl rfl ?_
    obtain ⟨q13, hq13, h⟩ := d_bd_some h
    refine u_calli (pc := 98) F (As := [.int x1, .int s0]) (c_X11_sendBy G hL x1 s0 (upM σ 11 0 q12) q12 (upM_same _ _ _ _) q13.1 q13.2 hq13) yv_X11_sendBy ml_11_227 (hL 11 0 0 (by decide) rfl) rfl (by decide) rfl rfl (Nat.le_of_ble_eq_true rfl) dX11_pressNow_98 ?_
    refine u_mem (σ2 := (upM σ 11 0 q13.2)) (by first | (rw [upM_upM]; done) | (rw [upM_mid _ _ _ _ (by decide)]; done) | (rw [upM_mid _ _ _ _ (by decide), upM_upM]; done) | (rw [upM_mid _ _ _ _ (by decide), upM_mid _ _ _ _ (by decide)]; done)) ?_
    refine u_ior (pc := 101) F dX11_pressNow_101 ?_
    obtain ⟨v14, hv14, h⟩ := d_lt_some h
    refine u_topi hv14 ?_
    refine u_istore (lv' := [(4, .int v14), (3, .int s0), (0, .ref (adr G (11, 0, 0))), (1, .int x1)]) (pc := 102) F dX11_pressNow_102 hY (by decide) rfl ?_
    refine u_iload (pc := 104) F dX11_pressNow_104 0 rfl ?_
    have h1 := Option.some.inj h
    obtain ⟨hj0, hr0⟩ := Prod.mk.inj h1
    subst hj0
    subst hr0
    exact hR _ _ rfl dX11_pressNow_106
set_option maxHeartbeats 4000000 in
set_option maxRecDepth 100000 in
theorem wX11_pressNow_42 (Y : Dy) (G : G0) (hL : Im G) (σ : Mem) (F : Fx Y G cX11_pressNow RX11 6) (hY : Y.2.2.2.2.2.2.2.2.2.2.2.1 = 5) (r : Int32) (mo' : Grp) (hR : ∀ (pc : Nat) (lv : List (Nat × Value)), narrow .int (.int r) = .int r → decode cX11_pressNow pc = .ok (.ireturn, 1) → U Y G (upM σ 11 0 (mo')) pc lv [.int r]) :
    ∀ (mo : Grp) (x1 : Int32) (s0 : Int32), fX11_pressNow_42 mo x1 s0 = some (r, mo') → U Y G (upM σ 11 0 mo) 42 [(0, .ref (adr G (11, 0, 0))), (1, .int x1)] [.int s0] := by
  intro mo x1 s0 h
  unfold fX11_pressNow_42 at h
  refine u_istore_n (lv' := [(2, .int s0), (0, .ref (adr G (11, 0, 0))), (1, .int x1)]) (pc := 42) F dX11_pressNow_42 rfl hY (by decide) rfl ?_
  refine u_iload_n (pc := 43) F dX11_pressNow_43 0 rfl rfl ?_
  refine u_if_eq (pc := 44) F 58 dX11_pressNow_44 (by decide) (fun c6 => ?_) (fun c6 => ?_)
  · rw [if_pos c6] at h
    refine u_aload_n (pc := 58) F dX11_pressNow_58 1 rfl rfl ?_
    refine u_getA (pc := 59) F dX11_pressNow_59 (hL 11 0 0 (by decide) rfl) ck_11 fl_11_25 rfl (by decide) (by decide) ?_
    refine u_iload_n (pc := 62) F dX11_pressNow_62 2 rfl rfl ?_
    obtain ⟨b7, h⟩ := d_ab_some h
    refine u_aldI1 (pc := 63) F dX11_pressNow_63 (hL 11 0 11 (by decide) rfl) rfl b7 ?_
    refine u_lv (lv' := [(0, .ref (adr G (11, 0, 0))), (1, .int x1)]) [1, 2] rfl ?_
    exact wX11_pressNow_64 Y G hL σ F hY r mo' hR mo x1 (mo 11 x1.toNatClampNeg) h
  · rw [if_neg c6] at h
    refine u_aload_n (pc := 47) F dX11_pressNow_47 1 rfl rfl ?_
    refine u_getA (pc := 48) F dX11_pressNow_48 (hL 11 0 0 (by decide) rfl) ck_11 fl_11_25 rfl (by decide) (by decide) ?_
    refine u_iload_n (pc := 51) F dX11_pressNow_51 2 rfl rfl ?_
    obtain ⟨b15, h⟩ := d_ab_some h
    refine u_aldI1 (pc := 52) F dX11_pressNow_52 (hL 11 0 11 (by decide) rfl) rfl b15 ?_
    refine u_iconst (v := 2) (pc := 53) F dX11_pressNow_53 (by decide) ?_
    refine u_idiv (pc := 54) F dX11_pressNow_54 (by decide) ?_
    refine u_goto (pc := 55) F 64 dX11_pressNow_55 (by decide) ?_
    refine u_lv (lv' := [(0, .ref (adr G (11, 0, 0))), (1, .int x1)]) [1, 2] rfl ?_
    exact wX11_pressNow_64 Y G hL σ F hY r mo' hR mo x1 ((mo 11 x1.toNatClampNeg) / (2 : Int32)) h
set_option maxHeartbeats 4000000 in
set_option maxRecDepth 100000 in
theorem wX11_pressNow_41 (Y : Dy) (G : G0) (hL : Im G) (σ : Mem) (F : Fx Y G cX11_pressNow RX11 6) (hY : Y.2.2.2.2.2.2.2.2.2.2.2.1 = 5) (r : Int32) (mo' : Grp) (hR : ∀ (pc : Nat) (lv : List (Nat × Value)), narrow .int (.int r) = .int r → decode cX11_pressNow pc = .ok (.ireturn, 1) → U Y G (upM σ 11 0 (mo')) pc lv [.int r]) :
    ∀ (mo : Grp) (x1 : Int32), fX11_pressNow_41 mo x1 = some (r, mo') → U Y G (upM σ 11 0 mo) 41 [(0, .ref (adr G (11, 0, 0))), (1, .int x1)] [] := by
  intro mo x1 h
  unfold fX11_pressNow_41 at h
  refine u_iconst (v := 0) (pc := 41) F dX11_pressNow_41 (by decide) ?_
  exact wX11_pressNow_42 Y G hL σ F hY r mo' hR mo x1 (0 : Int32) h
set_option maxHeartbeats 4000000 in
set_option maxRecDepth 100000 in
theorem c_X11_pressNow (G : G0) (hL : Im G) (x1 : Int32) (σ : Mem) (mo : Grp) (e_mo : σ 11 0 = mo) (r : Int32) (mo' : Grp) (h : fX11_pressNow mo x1 = some (r, mo')) :
    CI G yX11_pressNow cX11_pressNow 5 .int 6 [.ref (adr G (11, 0, 0)), .int x1] σ r (upM σ 11 0 (mo')) := by
  refine CI.of (by decide +kernel) (Nat.le_of_ble_eq_true rfl) (fun Y hY F hR => ?_)
  unfold fX11_pressNow at h
  have F : Fx Y G cX11_pressNow RX11 6 := F
  refine u_mem (σ2 := (upM σ 11 0 mo)) (by rw [← e_mo]; simp only [upM_self]) ?_
  refine u_lv (lv' := [(0, .ref (adr G (11, 0, 0))), (1, .int x1)]) [0, 1] rfl ?_
  refine u_aload_n (pc := 0) F dX11_pressNow_0 0 rfl rfl ?_
  refine u_getA (pc := 1) F dX11_pressNow_1 (hL 11 0 0 (by decide) rfl) ck_11 fl_11_34 rfl (by decide) (by decide) ?_
  refine u_bipush (v := 10) (pc := 4) F dX11_pressNow_4 (by decide) ?_
  refine u_iload_n (pc := 6) F dX11_pressNow_6 1 rfl rfl ?_
  refine u_iadd (pc := 7) F dX11_pressNow_7 ?_
  refine u_dup2 (pc := 8) F dX11_pressNow_8 rfl rfl ?_
  obtain ⟨b1, h⟩ := d_ab_some h
  refine u_aldI1 (pc := 9) F dX11_pressNow_9 (hL 11 0 14 (by decide) rfl) rfl b1 ?_
  refine u_iconst (v := 1) (pc := 10) F dX11_pressNow_10 (by decide) ?_
  refine u_isub (pc := 11) F dX11_pressNow_11 ?_
  obtain ⟨b2, h⟩ := d_ab_some h
  refine u_astI1 (pc := 12) F dX11_pressNow_12 (hL 11 0 14 (by decide) rfl) rfl b2 ?_
  obtain ⟨g3, hg3, h⟩ := d_lt_some h
  refine u_mem (σ2 := (upM σ 11 0 g3)) (by rw [hg3]) ?_
  refine u_aload_n (pc := 13) F dX11_pressNow_13 0 rfl rfl ?_
  refine u_getA (pc := 14) F dX11_pressNow_14 (hL 11 0 0 (by decide) rfl) ck_11 fl_11_19 rfl (by decide) (by decide) ?_
  refine u_iload_n (pc := 17) F dX11_pressNow_17 1 rfl rfl ?_
  obtain ⟨b4, h⟩ := d_ab_some h
  refine u_aldI1 (pc := 18) F dX11_pressNow_18 (hL 11 0 9 (by decide) rfl) rfl b4 ?_
  refine u_iconst (v := 2) (pc := 19) F dX11_pressNow_19 (by decide) ?_
  refine u_icmp_ne (pc := 20) F 41 dX11_pressNow_20 (by decide) (fun c5 => ?_) (fun c5 => ?_)
  · rw [if_neg c5] at h
    exact wX11_pressNow_41 Y G hL σ F hY r mo' hR g3 x1 h
  · rw [if_pos c5] at h
    refine u_aload_n (pc := 23) F dX11_pressNow_23 0 rfl rfl ?_
    refine u_getA (pc := 24) F dX11_pressNow_24 (hL 11 0 0 (by decide) rfl) ck_11 fl_11_34 rfl (by decide) (by decide) ?_
    refine u_bipush (v := 10) (pc := 27) F dX11_pressNow_27 (by decide) ?_
    refine u_iload_n (pc := 29) F dX11_pressNow_29 1 rfl rfl ?_
    refine u_iadd (pc := 30) F dX11_pressNow_30 ?_
    obtain ⟨b16, h⟩ := d_ab_some h
    refine u_aldI1 (pc := 31) F dX11_pressNow_31 (hL 11 0 14 (by decide) rfl) rfl b16 ?_
    refine u_bipush (v := 20) (pc := 32) F dX11_pressNow_32 (by decide) ?_
    refine u_icmp_ge (pc := 34) F 41 dX11_pressNow_34 (by decide) (fun c17 => ?_) (fun c17 => ?_)
    · rw [if_neg c17] at h
      exact wX11_pressNow_41 Y G hL σ F hY r mo' hR g3 x1 h
    · rw [if_pos c17] at h
      refine u_iconst (v := 1) (pc := 37) F dX11_pressNow_37 (by decide) ?_
      refine u_goto (pc := 38) F 42 dX11_pressNow_38 (by decide) ?_
      exact wX11_pressNow_42 Y G hL σ F hY r mo' hR g3 x1 (1 : Int32) h
/- RollingCodesModel.openings -/
def fX11_openings_4 (mo : Grp) : Nat → Int32 → Int32 → Option (Int32)
  | 0, _, _ => none
  | fu + 1, x1, x2 =>
    if x2 < (mo 0 3) then (d_ab ((26 : Int32) + x2) 59 <| d_lt (x1 + (mo 14 ((26 : Int32) + x2).toNatClampNeg)) fun v3 => d_lt (x2 + (1 : Int32)) fun v4 => fX11_openings_4 mo fu v3 v4) else (some x1)
def fX11_openings (mo : Grp) : Option (Int32) :=
    fX11_openings_4 mo 1000 (0 : Int32) (0 : Int32)
set_option maxHeartbeats 4000000 in
set_option maxRecDepth 100000 in
theorem wX11_openings_4 (Y : Dy) (G : G0) (hL : Im G) (σ : Mem) (mo : Grp) (e_mo : σ 11 0 = mo) (F : Fx Y G cX11_openings RX11 1) (hY : Y.2.2.2.2.2.2.2.2.2.2.2.1 = 3) (r : Int32) (hR : ∀ (pc : Nat) (lv : List (Nat × Value)), narrow .int (.int r) = .int r → decode cX11_openings pc = .ok (.ireturn, 1) → U Y G σ pc lv [.int r]) :
    ∀ (fu : Nat) (x1 : Int32) (x2 : Int32), fX11_openings_4 mo fu x1 x2 = some r → U Y G σ 4 [(0, .ref (adr G (11, 0, 0))), (1, .int x1), (2, .int x2)] [] := by
  intro fu
  induction fu with
  | zero =>
    intro x1 x2 h
    rw [fX11_openings_4] at h
    cases h
  | succ fu ih =>
    intro x1 x2 h
    rw [fX11_openings_4] at h
    refine u_iload_n (pc := 4) F dX11_openings_4 2 rfl rfl ?_
    refine u_aload_n (pc := 5) F dX11_openings_5 0 rfl rfl ?_
    refine u_get (v := mo 0 3) (pc := 6) F dX11_openings_6 (hL 11 0 0 (by decide) rfl) ck_11 fl_11_99 rfl (by decide) (congrFun (congrFun (show σ 11 0 = mo from e_mo) 0) 3) ?_
    refine u_icmp_ge (pc := 9) F 30 dX11_openings_9 (by decide) (fun c1 => ?_) (fun c1 => ?_)
    · rw [if_neg c1] at h
      refine u_iload_n (pc := 30) F dX11_openings_30 1 rfl rfl ?_
      have h1 := Option.some.inj h
      subst h1
      exact hR _ _ rfl dX11_openings_31
    · rw [if_pos c1] at h
      refine u_iload_n (pc := 12) F dX11_openings_12 1 rfl rfl ?_
      refine u_aload_n (pc := 13) F dX11_openings_13 0 rfl rfl ?_
      refine u_getA (pc := 14) F dX11_openings_14 (hL 11 0 0 (by decide) rfl) ck_11 fl_11_34 rfl (by decide) (by decide) ?_
      refine u_bipush (v := 26) (pc := 17) F dX11_openings_17 (by decide) ?_
      refine u_iload_n (pc := 19) F dX11_openings_19 2 rfl rfl ?_
      refine u_iadd (pc := 20) F dX11_openings_20 ?_
      obtain ⟨b2, h⟩ := d_ab_some h
      refine u_aldI (v := mo 14 ((26 : Int32) + x2).toNatClampNeg) (pc := 21) F dX11_openings_21 (hL 11 0 14 (by decide) rfl) rfl b2 (congrFun (congrFun (show σ 11 0 = mo from e_mo) 14) _) ?_
      refine u_iadd (pc := 22) F dX11_openings_22 ?_
      obtain ⟨v3, hv3, h⟩ := d_lt_some h
      refine u_topi hv3 ?_
      refine u_istore_n (lv' := [(1, .int v3), (0, .ref (adr G (11, 0, 0))), (2, .int x2)]) (pc := 23) F dX11_openings_23 rfl hY (by decide) rfl ?_
      obtain ⟨v4, hv4, h⟩ := d_lt_some h
      refine u_iinc (lv' := [(2, .int v4), (1, .int v3), (0, .ref (adr G (11, 0, 0)))]) (pc := 24) F dX11_openings_24 2 rfl hv4.symm hY (by decide) rfl ?_
      refine u_goto (pc := 27) F 4 dX11_openings_27 (by decide) ?_
      refine u_lv (lv' := [(0, .ref (adr G (11, 0, 0))), (1, .int v3), (2, .int v4)]) [2, 1, 0] rfl ?_
      exact ih v3 v4 h
set_option maxHeartbeats 4000000 in
set_option maxRecDepth 100000 in
theorem c_X11_openings (G : G0) (hL : Im G) (σ : Mem) (mo : Grp) (e_mo : σ 11 0 = mo) (r : Int32) (h : fX11_openings mo = some r) :
    CI G yX11_openings cX11_openings 3 .int 1 [.ref (adr G (11, 0, 0))] σ r σ := by
  refine CI.of (by decide +kernel) (Nat.le_of_ble_eq_true rfl) (fun Y hY F hR => ?_)
  unfold fX11_openings at h
  have F : Fx Y G cX11_openings RX11 1 := F
  refine u_lv (lv' := [(0, .ref (adr G (11, 0, 0)))]) [0] rfl ?_
  refine u_iconst (v := 0) (pc := 0) F dX11_openings_0 (by decide) ?_
  refine u_istore_n (lv' := [(1, .int (0 : Int32)), (0, .ref (adr G (11, 0, 0)))]) (pc := 1) F dX11_openings_1 rfl hY (by decide) rfl ?_
  refine u_iconst (v := 0) (pc := 2) F dX11_openings_2 (by decide) ?_
  refine u_istore_n (lv' := [(2, .int (0 : Int32)), (1, .int (0 : Int32)), (0, .ref (adr G (11, 0, 0)))]) (pc := 3) F dX11_openings_3 rfl hY (by decide) rfl ?_
  refine u_lv (lv' := [(0, .ref (adr G (11, 0, 0))), (1, .int (0 : Int32)), (2, .int (0 : Int32))]) [2, 1, 0] rfl ?_
  exact wX11_openings_4 Y G hL σ mo e_mo F hY r hR 1000 (0 : Int32) (0 : Int32) h
/- RollingCodesModel.told -/
def fX11_told (mo : Grp) (x1 : Int32) : Option (Int32) :=
    if x1 = (0 : Int32) then (if (mo 0 0) = 0 then (some (0 : Int32)) else (some (1 : Int32))) else (if x1 = (1 : Int32) then (some (mo 0 3)) else (if x1 = (2 : Int32) then (some (mo 0 7)) else (if x1 = (3 : Int32) then (some (mo 0 16)) else (if x1 = (4 : Int32) then (d_ab (58 : Int32) 59 <| some (mo 14 (58 : Int32).toNatClampNeg)) else (if x1 = (5 : Int32) then (d_ab (15 : Int32) 59 <| some (mo 14 (15 : Int32).toNatClampNeg)) else (if x1 = (6 : Int32) then (some (mo 0 2)) else (if x1 = (7 : Int32) then (d_ab (16 : Int32) 59 <| some (mo 14 (16 : Int32).toNatClampNeg)) else (if x1 = (8 : Int32) then (d_ab (25 : Int32) 59 <| some (mo 14 (25 : Int32).toNatClampNeg)) else (if x1 = (9 : Int32) then (d_bd (fX11_openings mo) fun q16 => some q16) else (if x1 = (10 : Int32) then (some (mo 0 37)) else (if x1 = (11 : Int32) then (some (mo 0 41)) else (if x1 = (12 : Int32) then (some (mo 0 32)) else (some (-1000000002 : Int32))))))))))))))
set_option maxHeartbeats 4000000 in
set_option maxRecDepth 100000 in
theorem c_X11_told (G : G0) (hL : Im G) (x1 : Int32) (σ : Mem) (mo : Grp) (e_mo : σ 11 0 = mo) (r : Int32) (h : fX11_told mo x1 = some r) :
    CI G yX11_told cX11_told 2 .int 2 [.ref (adr G (11, 0, 0)), .int x1] σ r σ := by
  refine CI.of (by decide +kernel) (Nat.le_of_ble_eq_true rfl) (fun Y hY F hR => ?_)
  unfold fX11_told at h
  have F : Fx Y G cX11_told RX11 2 := F
  refine u_lv (lv' := [(0, .ref (adr G (11, 0, 0))), (1, .int x1)]) [0, 1] rfl ?_
  refine u_iload_n (pc := 0) F dX11_told_0 1 rfl rfl ?_
  by_cases e1 : x1 = (0 : Int32)
  · rw [if_pos e1] at h
    refine u_table (pc := 1) F dX11_told_1 (off := 67) 68 (by rw [e1]; decide) (by rw [e1]; decide) (by rw [e1]; rfl) (by decide) ?_
    refine u_aload_n (pc := 68) F dX11_told_68 0 rfl rfl ?_
    refine u_get (v := mo 0 0) (pc := 69) F dX11_told_69 (hL 11 0 0 (by decide) rfl) ck_11 fl_11_163 rfl (by decide) (congrFun (congrFun (show σ 11 0 = mo from e_mo) 0) 0) ?_
    refine u_if_eq (pc := 72) F 79 dX11_told_72 (by decide) (fun c2 => ?_) (fun c2 => ?_)
    · rw [if_pos c2] at h
      refine u_iconst (v := 0) (pc := 79) F dX11_told_79 (by decide) ?_
      have h1 := Option.some.inj h
      subst h1
      exact hR _ _ rfl dX11_told_80
    · rw [if_neg c2] at h
      refine u_iconst (v := 1) (pc := 75) F dX11_told_75 (by decide) ?_
      refine u_goto (pc := 76) F 80 dX11_told_76 (by decide) ?_
      have h1 := Option.some.inj h
      subst h1
      exact hR _ _ rfl dX11_told_80
  rw [if_neg e1] at h
  by_cases e3 : x1 = (1 : Int32)
  · rw [if_pos e3] at h
    refine u_table (pc := 1) F dX11_told_1 (off := 80) 81 (by rw [e3]; decide) (by rw [e3]; decide) (by rw [e3]; rfl) (by decide) ?_
    refine u_aload_n (pc := 81) F dX11_told_81 0 rfl rfl ?_
    refine u_get (v := mo 0 3) (pc := 82) F dX11_told_82 (hL 11 0 0 (by decide) rfl) ck_11 fl_11_99 rfl (by decide) (congrFun (congrFun (show σ 11 0 = mo from e_mo) 0) 3) ?_
    have h1 := Option.some.inj h
    subst h1
    exact hR _ _ rfl dX11_told_85
  rw [if_neg e3] at h
  by_cases e4 : x1 = (2 : Int32)
  · rw [if_pos e4] at h
    refine u_table (pc := 1) F dX11_told_1 (off := 85) 86 (by rw [e4]; decide) (by rw [e4]; decide) (by rw [e4]; rfl) (by decide) ?_
    refine u_aload_n (pc := 86) F dX11_told_86 0 rfl rfl ?_
    refine u_get (v := mo 0 7) (pc := 87) F dX11_told_87 (hL 11 0 0 (by decide) rfl) ck_11 fl_11_102 rfl (by decide) (congrFun (congrFun (show σ 11 0 = mo from e_mo) 0) 7) ?_
    have h1 := Option.some.inj h
    subst h1
    exact hR _ _ rfl dX11_told_90
  rw [if_neg e4] at h
  by_cases e5 : x1 = (3 : Int32)
  · rw [if_pos e5] at h
    refine u_table (pc := 1) F dX11_told_1 (off := 90) 91 (by rw [e5]; decide) (by rw [e5]; decide) (by rw [e5]; rfl) (by decide) ?_
    refine u_aload_n (pc := 91) F dX11_told_91 0 rfl rfl ?_
    refine u_get (v := mo 0 16) (pc := 92) F dX11_told_92 (hL 11 0 0 (by decide) rfl) ck_11 fl_11_112 rfl (by decide) (congrFun (congrFun (show σ 11 0 = mo from e_mo) 0) 16) ?_
    have h1 := Option.some.inj h
    subst h1
    exact hR _ _ rfl dX11_told_95
  rw [if_neg e5] at h
  by_cases e6 : x1 = (4 : Int32)
  · rw [if_pos e6] at h
    refine u_table (pc := 1) F dX11_told_1 (off := 95) 96 (by rw [e6]; decide) (by rw [e6]; decide) (by rw [e6]; rfl) (by decide) ?_
    refine u_aload_n (pc := 96) F dX11_told_96 0 rfl rfl ?_
    refine u_getA (pc := 97) F dX11_told_97 (hL 11 0 0 (by decide) rfl) ck_11 fl_11_34 rfl (by decide) (by decide) ?_
    refine u_bipush (v := 58) (pc := 100) F dX11_told_100 (by decide) ?_
    obtain ⟨b7, h⟩ := d_ab_some h
    refine u_aldI (v := mo 14 (58 : Int32).toNatClampNeg) (pc := 102) F dX11_told_102 (hL 11 0 14 (by decide) rfl) rfl b7 (congrFun (congrFun (show σ 11 0 = mo from e_mo) 14) _) ?_
    have h1 := Option.some.inj h
    subst h1
    exact hR _ _ rfl dX11_told_103
  rw [if_neg e6] at h
  by_cases e8 : x1 = (5 : Int32)
  · rw [if_pos e8] at h
    refine u_table (pc := 1) F dX11_told_1 (off := 103) 104 (by rw [e8]; decide) (by rw [e8]; decide) (by rw [e8]; rfl) (by decide) ?_
    refine u_aload_n (pc := 104) F dX11_told_104 0 rfl rfl ?_
    refine u_getA (pc := 105) F dX11_told_105 (hL 11 0 0 (by decide) rfl) ck_11 fl_11_34 rfl (by decide) (by decide) ?_
    refine u_bipush (v := 15) (pc := 108) F dX11_told_108 (by decide) ?_
    obtain ⟨b9, h⟩ := d_ab_some h
    refine u_aldI (v := mo 14 (15 : Int32).toNatClampNeg) (pc := 110) F dX11_told_110 (hL 11 0 14 (by decide) rfl) rfl b9 (congrFun (congrFun (show σ 11 0 = mo from e_mo) 14) _) ?_
    have h1 := Option.some.inj h
    subst h1
    exact hR _ _ rfl dX11_told_111
  rw [if_neg e8] at h
  by_cases e10 : x1 = (6 : Int32)
  · rw [if_pos e10] at h
    refine u_table (pc := 1) F dX11_told_1 (off := 111) 112 (by rw [e10]; decide) (by rw [e10]; decide) (by rw [e10]; rfl) (by decide) ?_
    refine u_aload_n (pc := 112) F dX11_told_112 0 rfl rfl ?_
    refine u_get (v := mo 0 2) (pc := 113) F dX11_told_113 (hL 11 0 0 (by decide) rfl) ck_11 fl_11_166 rfl (by decide) (congrFun (congrFun (show σ 11 0 = mo from e_mo) 0) 2) ?_
    have h1 := Option.some.inj h
    subst h1
    exact hR _ _ rfl dX11_told_116
  rw [if_neg e10] at h
  by_cases e11 : x1 = (7 : Int32)
  · rw [if_pos e11] at h
    refine u_table (pc := 1) F dX11_told_1 (off := 116) 117 (by rw [e11]; decide) (by rw [e11]; decide) (by rw [e11]; rfl) (by decide) ?_
    refine u_aload_n (pc := 117) F dX11_told_117 0 rfl rfl ?_
    refine u_getA (pc := 118) F dX11_told_118 (hL 11 0 0 (by decide) rfl) ck_11 fl_11_34 rfl (by decide) (by decide) ?_
    refine u_bipush (v := 16) (pc := 121) F dX11_told_121 (by decide) ?_
    obtain ⟨b12, h⟩ := d_ab_some h
    refine u_aldI (v := mo 14 (16 : Int32).toNatClampNeg) (pc := 123) F dX11_told_123 (hL 11 0 14 (by decide) rfl) rfl b12 (congrFun (congrFun (show σ 11 0 = mo from e_mo) 14) _) ?_
    have h1 := Option.some.inj h
    subst h1
    exact hR _ _ rfl dX11_told_124
  rw [if_neg e11] at h
  by_cases e13 : x1 = (8 : Int32)
  · rw [if_pos e13] at h
    refine u_table (pc := 1) F dX11_told_1 (off := 124) 125 (by rw [e13]; decide) (by rw [e13]; decide) (by rw [e13]; rfl) (by decide) ?_
    refine u_aload_n (pc := 125) F dX11_told_125 0 rfl rfl ?_
    refine u_getA (pc := 126) F dX11_told_126 (hL 11 0 0 (by decide) rfl) ck_11 fl_11_34 rfl (by decide) (by decide) ?_
    refine u_bipush (v := 25) (pc := 129) F dX11_told_129 (by decide) ?_
    obtain ⟨b14, h⟩ := d_ab_some h
    refine u_aldI (v := mo 14 (25 : Int32).toNatClampNeg) (pc := 131) F dX11_told_131 (hL 11 0 14 (by decide) rfl) rfl b14 (congrFun (congrFun (show σ 11 0 = mo from e_mo) 14) _) ?_
    have h1 := Option.some.inj h
    subst h1
    exact hR _ _ rfl dX11_told_132
  rw [if_neg e13] at h
  by_cases e15 : x1 = (9 : Int32)
  · rw [if_pos e15] at h
    refine u_table (pc := 1) F dX11_told_1 (off := 132) 133 (by rw [e15]; decide) (by rw [e15]; decide) (by rw [e15]; rfl) (by decide) ?_
    refine u_aload_n (pc := 133) F dX11_told_133 0 rfl rfl ?_
    obtain ⟨q16, hq16, h⟩ := d_bd_some h
    refine u_calli (pc := 134) F (As := []) (c_X11_openings G hL σ mo ((show σ 11 0 = mo from e_mo)) q16 hq16) yv_X11_openings ml_11_230 (hL 11 0 0 (by decide) rfl) rfl (by decide) rfl rfl (Nat.le_of_ble_eq_true rfl) dX11_told_134 ?_
    have h1 := Option.some.inj h
    subst h1
    exact hR _ _ rfl dX11_told_137
  rw [if_neg e15] at h
  by_cases e17 : x1 = (10 : Int32)
  · rw [if_pos e17] at h
    refine u_table (pc := 1) F dX11_told_1 (off := 137) 138 (by rw [e17]; decide) (by rw [e17]; decide) (by rw [e17]; rfl) (by decide) ?_
    refine u_aload_n (pc := 138) F dX11_told_138 0 rfl rfl ?_
    refine u_get (v := mo 0 37) (pc := 139) F dX11_told_139 (hL 11 0 0 (by decide) rfl) ck_11 fl_11_182 rfl (by decide) (congrFun (congrFun (show σ 11 0 = mo from e_mo) 0) 37) ?_
    have h1 := Option.some.inj h
    subst h1
    exact hR _ _ rfl dX11_told_142
  rw [if_neg e17] at h
  by_cases e18 : x1 = (11 : Int32)
  · rw [if_pos e18] at h
    refine u_table (pc := 1) F dX11_told_1 (off := 142) 143 (by rw [e18]; decide) (by rw [e18]; decide) (by rw [e18]; rfl) (by decide) ?_
    refine u_aload_n (pc := 143) F dX11_told_143 0 rfl rfl ?_
    refine u_get (v := mo 0 41) (pc := 144) F dX11_told_144 (hL 11 0 0 (by decide) rfl) ck_11 fl_11_185 rfl (by decide) (congrFun (congrFun (show σ 11 0 = mo from e_mo) 0) 41) ?_
    have h1 := Option.some.inj h
    subst h1
    exact hR _ _ rfl dX11_told_147
  rw [if_neg e18] at h
  by_cases e19 : x1 = (12 : Int32)
  · rw [if_pos e19] at h
    refine u_table (pc := 1) F dX11_told_1 (off := 147) 148 (by rw [e19]; decide) (by rw [e19]; decide) (by rw [e19]; rfl) (by decide) ?_
    refine u_aload_n (pc := 148) F dX11_told_148 0 rfl rfl ?_
    refine u_get (v := mo 0 32) (pc := 149) F dX11_told_149 (hL 11 0 0 (by decide) rfl) ck_11 fl_11_188 rfl (by decide) (congrFun (congrFun (show σ 11 0 = mo from e_mo) 0) 32) ?_
    have h1 := Option.some.inj h
    subst h1
    exact hR _ _ rfl dX11_told_152
  rw [if_neg e19] at h
  refine u_tableOut (pc := 1) F dX11_told_1 153 (by
    have j0 : ¬ x1.toInt = 0 := i32_ne e1
    have j1 : ¬ x1.toInt = 1 := i32_ne e3
    have j2 : ¬ x1.toInt = 2 := i32_ne e4
    have j3 : ¬ x1.toInt = 3 := i32_ne e5
    have j4 : ¬ x1.toInt = 4 := i32_ne e6
    have j5 : ¬ x1.toInt = 5 := i32_ne e8
    have j6 : ¬ x1.toInt = 6 := i32_ne e10
    have j7 : ¬ x1.toInt = 7 := i32_ne e11
    have j8 : ¬ x1.toInt = 8 := i32_ne e13
    have j9 : ¬ x1.toInt = 9 := i32_ne e15
    have j10 : ¬ x1.toInt = 10 := i32_ne e17
    have j11 : ¬ x1.toInt = 11 := i32_ne e18
    have j12 : ¬ x1.toInt = 12 := i32_ne e19
    omega) (by decide) ?_
  refine u_ldc (v := -1000000002) (pc := 153) F dX11_told_153 kc_11_111 ?_
  have h1 := Option.some.inj h
  subst h1
  exact hR _ _ rfl dX11_told_155
/- RollingCodesModel.keepNow -/
def fX11_keepNow (mo : Grp) : Option (Grp) :=
    d_bd (fX11_copyRow mo 13 59 34 59 (59 : Int32)) fun q1 => some q1
set_option maxHeartbeats 4000000 in
set_option maxRecDepth 100000 in
theorem c_X11_keepNow (G : G0) (hL : Im G) (σ : Mem) (mo : Grp) (e_mo : σ 11 0 = mo) (mo' : Grp) (h : fX11_keepNow mo = some mo') :
    CV G yX11_keepNow cX11_keepNow 1 2 [.ref (adr G (11, 0, 0))] σ (upM σ 11 0 (mo')) := by
  refine CV.of (by decide +kernel) (Nat.le_of_ble_eq_true rfl) (fun Y hY F hR => ?_)
  unfold fX11_keepNow at h
  have F : Fx Y G cX11_keepNow RX11 2 := F
  refine u_mem (σ2 := (upM σ 11 0 mo)) (by rw [← e_mo]; simp only [upM_self]) ?_
  refine u_lv (lv' := [(0, .ref (adr G (11, 0, 0)))]) [0] rfl ?_
  refine u_aload_n (pc := 0) F dX11_keepNow_0 0 rfl rfl ?_
  refine u_getA (pc := 1) F dX11_keepNow_1 (hL 11 0 0 (by decide) rfl) ck_11 fl_11_34 rfl (by decide) (by decide) ?_
  refine u_aload_n (pc := 4) F dX11_keepNow_4 0 rfl rfl ?_
  refine u_getA (pc := 5) F dX11_keepNow_5 (hL 11 0 0 (by decide) rfl) ck_11 fl_11_74 rfl (by decide) (by decide) ?_
  refine u_bipush (v := 59) (pc := 8) F dX11_keepNow_8 (by decide) ?_
  obtain ⟨q1, hq1, h⟩ := d_bd_some h
  refine u_callSv (pc := 10) F (As := [.ref (adr G (11, 0, 14)), .ref (adr G (11, 0, 35)), .int (59 : Int32)]) (c_X11_copyRow G hL 13 59 rfl 34 59 rfl (59 : Int32) (upM σ 11 0 mo) mo (upM_same _ _ _ _) q1 hq1) ys_X11_copyRow ml_11_169 (by decide) rfl rfl (Nat.le_of_ble_eq_true rfl) dX11_keepNow_10 ?_
  refine u_mem (σ2 := (upM σ 11 0 q1)) (by first | (rw [upM_upM]; done) | (rw [upM_mid _ _ _ _ (by decide)]; done) | (rw [upM_mid _ _ _ _ (by decide), upM_upM]; done) | (rw [upM_mid _ _ _ _ (by decide), upM_mid _ _ _ _ (by decide)]; done)) ?_
  have h1 := Option.some.inj h
  subst h1
  exact hR _ _ dX11_keepNow_13
/- RollingCodesModel.putBack -/
def fX11_putBack (mo : Grp) : Option (Grp) :=
    d_bd (fX11_copyRow mo 34 59 13 59 (59 : Int32)) fun q1 => some q1
set_option maxHeartbeats 4000000 in
set_option maxRecDepth 100000 in
theorem c_X11_putBack (G : G0) (hL : Im G) (σ : Mem) (mo : Grp) (e_mo : σ 11 0 = mo) (mo' : Grp) (h : fX11_putBack mo = some mo') :
    CV G yX11_putBack cX11_putBack 1 2 [.ref (adr G (11, 0, 0))] σ (upM σ 11 0 (mo')) := by
  refine CV.of (by decide +kernel) (Nat.le_of_ble_eq_true rfl) (fun Y hY F hR => ?_)
  unfold fX11_putBack at h
  have F : Fx Y G cX11_putBack RX11 2 := F
  refine u_mem (σ2 := (upM σ 11 0 mo)) (by rw [← e_mo]; simp only [upM_self]) ?_
  refine u_lv (lv' := [(0, .ref (adr G (11, 0, 0)))]) [0] rfl ?_
  refine u_aload_n (pc := 0) F dX11_putBack_0 0 rfl rfl ?_
  refine u_getA (pc := 1) F dX11_putBack_1 (hL 11 0 0 (by decide) rfl) ck_11 fl_11_74 rfl (by decide) (by decide) ?_
  refine u_aload_n (pc := 4) F dX11_putBack_4 0 rfl rfl ?_
  refine u_getA (pc := 5) F dX11_putBack_5 (hL 11 0 0 (by decide) rfl) ck_11 fl_11_34 rfl (by decide) (by decide) ?_
  refine u_bipush (v := 59) (pc := 8) F dX11_putBack_8 (by decide) ?_
  obtain ⟨q1, hq1, h⟩ := d_bd_some h
  refine u_callSv (pc := 10) F (As := [.ref (adr G (11, 0, 35)), .ref (adr G (11, 0, 14)), .int (59 : Int32)]) (c_X11_copyRow G hL 34 59 rfl 13 59 rfl (59 : Int32) (upM σ 11 0 mo) mo (upM_same _ _ _ _) q1 hq1) ys_X11_copyRow ml_11_169 (by decide) rfl rfl (Nat.le_of_ble_eq_true rfl) dX11_putBack_10 ?_
  refine u_mem (σ2 := (upM σ 11 0 q1)) (by first | (rw [upM_upM]; done) | (rw [upM_mid _ _ _ _ (by decide)]; done) | (rw [upM_mid _ _ _ _ (by decide), upM_upM]; done) | (rw [upM_mid _ _ _ _ (by decide), upM_mid _ _ _ _ (by decide)]; done)) ?_
  have h1 := Option.some.inj h
  subst h1
  exact hR _ _ dX11_putBack_13
/- RollingCodesModel.opensFrom -/
def fX11_opensFrom (mo : Grp) (x1 : Int32) (x2 : Int32) : Option (Int32 × Grp) :=
    d_ab ((10 : Int32) + x1) 59 <| if (mo 14 ((10 : Int32) + x1).toNatClampNeg) = 0 then (some ((0 : Int32), mo)) else (d_bd (fX11_keepNow mo) fun q3 => d_ab x1 59 <| d_lt (wr q3 14 x1.toNatClampNeg x2) fun g5 => d_bd (fX11_pressNow g5 x1) fun q6 => d_bd (fX11_putBack q6.2) fun q7 => some (q6.1, q7))
set_option maxHeartbeats 4000000 in
set_option maxRecDepth 100000 in
theorem c_X11_opensFrom (G : G0) (hL : Im G) (x1 : Int32) (x2 : Int32) (σ : Mem) (mo : Grp) (e_mo : σ 11 0 = mo) (r : Int32) (mo' : Grp) (h : fX11_opensFrom mo x1 x2 = some (r, mo')) :
    CI G yX11_opensFrom cX11_opensFrom 4 .int 7 [.ref (adr G (11, 0, 0)), .int x1, .int x2] σ r (upM σ 11 0 (mo')) := by
  refine CI.of (by decide +kernel) (Nat.le_of_ble_eq_true rfl) (fun Y hY F hR => ?_)
  unfold fX11_opensFrom at h
  have F : Fx Y G cX11_opensFrom RX11 7 := F
  refine u_mem (σ2 := (upM σ 11 0 mo)) (by rw [← e_mo]; simp only [upM_self]) ?_
  refine u_lv (lv' := [(0, .ref (adr G (11, 0, 0))), (1, .int x1), (2, .int x2)]) [0, 1, 2] rfl ?_
  refine u_aload_n (pc := 0) F dX11_opensFrom_0 0 rfl rfl ?_
  refine u_getA (pc := 1) F dX11_opensFrom_1 (hL 11 0 0 (by decide) rfl) ck_11 fl_11_34 rfl (by decide) (by decide) ?_
  refine u_bipush (v := 10) (pc := 4) F dX11_opensFrom_4 (by decide) ?_
  refine u_iload_n (pc := 6) F dX11_opensFrom_6 1 rfl rfl ?_
  refine u_iadd (pc := 7) F dX11_opensFrom_7 ?_
  obtain ⟨b1, h⟩ := d_ab_some h
  refine u_aldI1 (pc := 8) F dX11_opensFrom_8 (hL 11 0 14 (by decide) rfl) rfl b1 ?_
  refine u_if_ne (pc := 9) F 14 dX11_opensFrom_9 (by decide) (fun c2 => ?_) (fun c2 => ?_)
  · rw [if_neg c2] at h
    refine u_aload_n (pc := 14) F dX11_opensFrom_14 0 rfl rfl ?_
    obtain ⟨q3, hq3, h⟩ := d_bd_some h
    refine u_callv (pc := 15) F (As := []) (c_X11_keepNow G hL (upM σ 11 0 mo) mo (upM_same _ _ _ _) q3 hq3) yv_X11_keepNow ml_11_275 (hL 11 0 0 (by decide) rfl) rfl (by decide) rfl rfl (Nat.le_of_ble_eq_true rfl) dX11_opensFrom_15 ?_
    refine u_mem (σ2 := (upM σ 11 0 q3)) (by first | (rw [upM_upM]; done) | (rw [upM_mid _ _ _ _ (by decide)]; done) | (rw [upM_mid _ _ _ _ (by decide), upM_upM]; done) | (rw [upM_mid _ _ _ _ (by decide), upM_mid _ _ _ _ (by decide)]; done)) ?_
    refine u_aload_n (pc := 18) F dX11_opensFrom_18 0 rfl rfl ?_
    refine u_getA (pc := 19) F dX11_opensFrom_19 (hL 11 0 0 (by decide) rfl) ck_11 fl_11_34 rfl (by decide) (by decide) ?_
    refine u_iload_n (pc := 22) F dX11_opensFrom_22 1 rfl rfl ?_
    refine u_iload_n (pc := 23) F dX11_opensFrom_23 2 rfl rfl ?_
    obtain ⟨b4, h⟩ := d_ab_some h
    refine u_astI1 (pc := 24) F dX11_opensFrom_24 (hL 11 0 14 (by decide) rfl) rfl b4 ?_
    obtain ⟨g5, hg5, h⟩ := d_lt_some h
    refine u_mem (σ2 := (upM σ 11 0 g5)) (by rw [hg5]) ?_
    refine u_aload_n (pc := 25) F dX11_opensFrom_25 0 rfl rfl ?_
    refine u_iload_n (pc := 26) F dX11_opensFrom_26 1 rfl rfl ?_
    obtain ⟨q6, hq6, h⟩ := d_bd_some h
    refine u_calli (pc := 27) F (As := [.int x1]) (c_X11_pressNow G hL x1 (upM σ 11 0 g5) g5 (upM_same _ _ _ _) q6.1 q6.2 hq6) yv_X11_pressNow ml_11_252 (hL 11 0 0 (by decide) rfl) rfl (by decide) rfl rfl (Nat.le_of_ble_eq_true rfl) dX11_opensFrom_27 ?_
    refine u_mem (σ2 := (upM σ 11 0 q6.2)) (by first | (rw [upM_upM]; done) | (rw [upM_mid _ _ _ _ (by decide)]; done) | (rw [upM_mid _ _ _ _ (by decide), upM_upM]; done) | (rw [upM_mid _ _ _ _ (by decide), upM_mid _ _ _ _ (by decide)]; done)) ?_
    refine u_istore_n (lv' := [(3, .int q6.1), (0, .ref (adr G (11, 0, 0))), (1, .int x1), (2, .int x2)]) (pc := 30) F dX11_opensFrom_30 rfl hY (by decide) rfl ?_
    refine u_aload_n (pc := 31) F dX11_opensFrom_31 1 rfl rfl ?_
    obtain ⟨q7, hq7, h⟩ := d_bd_some h
    refine u_callv (pc := 32) F (As := []) (c_X11_putBack G hL (upM σ 11 0 q6.2) q6.2 (upM_same _ _ _ _) q7 hq7) yv_X11_putBack ml_11_278 (hL 11 0 0 (by decide) rfl) rfl (by decide) rfl rfl (Nat.le_of_ble_eq_true rfl) dX11_opensFrom_32 ?_
    refine u_mem (σ2 := (upM σ 11 0 q7)) (by first | (rw [upM_upM]; done) | (rw [upM_mid _ _ _ _ (by decide)]; done) | (rw [upM_mid _ _ _ _ (by decide), upM_upM]; done) | (rw [upM_mid _ _ _ _ (by decide), upM_mid _ _ _ _ (by decide)]; done)) ?_
    refine u_iload_n (pc := 35) F dX11_opensFrom_35 0 rfl rfl ?_
    have h1 := Option.some.inj h
    obtain ⟨hj0, hr0⟩ := Prod.mk.inj h1
    subst hj0
    subst hr0
    exact hR _ _ rfl dX11_opensFrom_36
  · rw [if_pos c2] at h
    refine u_iconst (v := 0) (pc := 12) F dX11_opensFrom_12 (by decide) ?_
    have h1 := Option.some.inj h
    obtain ⟨hj0, hr0⟩ := Prod.mk.inj h1
    subst hj0
    subst hr0
    exact hR _ _ rfl dX11_opensFrom_13
/- RollingCodesModel.bestPlace -/
def fX11_bestPlace_7  : Nat → Grp → Int32 → Int32 → Int32 → Int32 → Option (Int32 × Grp)
  | 0, _, _, _, _, _ => none
  | fu + 1, mo, x1, x2, x3, x4 =>
    if x4 < (10 : Int32) then (d_bd (fX11_opensFrom mo x1 x4) fun q2 => d_bd (fX11_bits q2.1) fun q3 => d_lt (if q3 ≤ x3 then x2 else x4) fun v4 => d_lt (if q3 ≤ x3 then x3 else q3) fun v6 => d_lt (x4 + (1 : Int32)) fun v8 => fX11_bestPlace_7 fu q2.2 x1 v4 v6 v8) else (some (x2, mo))
def fX11_bestPlace (mo : Grp) (x1 : Int32) : Option (Int32 × Grp) :=
    fX11_bestPlace_7 1000 mo x1 (0 : Int32) (0 : Int32) (0 : Int32)
set_option maxHeartbeats 4000000 in
set_option maxRecDepth 100000 in
theorem wX11_bestPlace_7 (Y : Dy) (G : G0) (hL : Im G) (σ : Mem) (F : Fx Y G cX11_bestPlace RX11 8) (hY : Y.2.2.2.2.2.2.2.2.2.2.2.1 = 6) (r : Int32) (mo' : Grp) (hR : ∀ (pc : Nat) (lv : List (Nat × Value)), narrow .int (.int r) = .int r → decode cX11_bestPlace pc = .ok (.ireturn, 1) → U Y G (upM σ 11 0 (mo')) pc lv [.int r]) :
    ∀ (fu : Nat) (mo : Grp) (x1 : Int32) (x2 : Int32) (x3 : Int32) (x4 : Int32), fX11_bestPlace_7 fu mo x1 x2 x3 x4 = some (r, mo') → U Y G (upM σ 11 0 mo) 7 [(0, .ref (adr G (11, 0, 0))), (1, .int x1), (2, .int x2), (3, .int x3), (4, .int x4)] [] := by
  intro fu
  induction fu with
  | zero =>
    intro mo x1 x2 x3 x4 h
    rw [fX11_bestPlace_7] at h
    cases h
  | succ fu ih =>
    intro mo x1 x2 x3 x4 h
    rw [fX11_bestPlace_7] at h
    refine u_iload (pc := 7) F dX11_bestPlace_7 4 rfl ?_
    refine u_bipush (v := 10) (pc := 9) F dX11_bestPlace_9 (by decide) ?_
    refine u_icmp_ge (pc := 11) F 58 dX11_bestPlace_11 (by decide) (fun c1 => ?_) (fun c1 => ?_)
    · rw [if_neg c1] at h
      refine u_iload_n (pc := 58) F dX11_bestPlace_58 2 rfl rfl ?_
      have h1 := Option.some.inj h
      obtain ⟨hj0, hr0⟩ := Prod.mk.inj h1
      subst hj0
      subst hr0
      exact hR _ _ rfl dX11_bestPlace_59
    · rw [if_pos c1] at h
      refine u_aload_n (pc := 14) F dX11_bestPlace_14 0 rfl rfl ?_
      refine u_iload_n (pc := 15) F dX11_bestPlace_15 1 rfl rfl ?_
      refine u_iload (pc := 16) F dX11_bestPlace_16 4 rfl ?_
      obtain ⟨q2, hq2, h⟩ := d_bd_some h
      refine u_calli (pc := 18) F (As := [.int x1, .int x4]) (c_X11_opensFrom G hL x1 x4 (upM σ 11 0 mo) mo (upM_same _ _ _ _) q2.1 q2.2 hq2) yv_X11_opensFrom ml_11_283 (hL 11 0 0 (by decide) rfl) rfl (by decide) rfl rfl (Nat.le_of_ble_eq_true rfl) dX11_bestPlace_18 ?_
      refine u_mem (σ2 := (upM σ 11 0 q2.2)) (by first | (rw [upM_upM]; done) | (rw [upM_mid _ _ _ _ (by decide)]; done) | (rw [upM_mid _ _ _ _ (by decide), upM_upM]; done) | (rw [upM_mid _ _ _ _ (by decide), upM_mid _ _ _ _ (by decide)]; done)) ?_
      obtain ⟨q3, hq3, h⟩ := d_bd_some h
      refine u_callSi (pc := 21) F (As := [.int q2.1]) (c_X11_bits G hL q2.1 (upM σ 11 0 q2.2) q3 hq3) ys_X11_bits ml_11_286 (by decide) rfl rfl (Nat.le_of_ble_eq_true rfl) dX11_bestPlace_21 ?_
      refine u_istore (lv' := [(5, .int q3), (0, .ref (adr G (11, 0, 0))), (1, .int x1), (2, .int x2), (3, .int x3), (4, .int x4)]) (pc := 24) F dX11_bestPlace_24 hY (by decide) rfl ?_
      refine u_iload (pc := 26) F dX11_bestPlace_26 0 rfl ?_
      refine u_iload_n (pc := 28) F dX11_bestPlace_28 4 rfl rfl ?_
      obtain ⟨v4, hv4, h⟩ := d_lt_some h
      suffices hj : U Y G (upM σ 11 0 q2.2) 38 [(5, .int q3), (0, .ref (adr G (11, 0, 0))), (1, .int x1), (2, .int x2), (3, .int x3), (4, .int x4)] [.int v4] by
        refine u_icmp_le (pc := 29) F 37 dX11_bestPlace_29 (by decide) (fun c5 => ?_) (fun c5 => ?_)
        · rw [if_pos c5] at hv4
          refine u_iload_n (pc := 37) F dX11_bestPlace_37 3 rfl rfl ?_
          exact u_topi hv4 hj
        · rw [if_neg c5] at hv4
          refine u_iload (pc := 32) F dX11_bestPlace_32 5 rfl ?_
          refine u_goto (pc := 34) F 38 dX11_bestPlace_34 (by decide) ?_
          exact u_topi hv4 hj
      refine u_istore_n (lv' := [(2, .int v4), (5, .int q3), (0, .ref (adr G (11, 0, 0))), (1, .int x1), (3, .int x3), (4, .int x4)]) (pc := 38) F dX11_bestPlace_38 rfl hY (by decide) rfl ?_
      refine u_iload (pc := 39) F dX11_bestPlace_39 1 rfl ?_
      refine u_iload_n (pc := 41) F dX11_bestPlace_41 4 rfl rfl ?_
      obtain ⟨v6, hv6, h⟩ := d_lt_some h
      suffices hj : U Y G (upM σ 11 0 q2.2) 51 [(2, .int v4), (5, .int q3), (0, .ref (adr G (11, 0, 0))), (1, .int x1), (3, .int x3), (4, .int x4)] [.int v6] by
        refine u_icmp_le (pc := 42) F 50 dX11_bestPlace_42 (by decide) (fun c7 => ?_) (fun c7 => ?_)
        · rw [if_pos c7] at hv6
          refine u_iload_n (pc := 50) F dX11_bestPlace_50 4 rfl rfl ?_
          exact u_topi hv6 hj
        · rw [if_neg c7] at hv6
          refine u_iload (pc := 45) F dX11_bestPlace_45 1 rfl ?_
          refine u_goto (pc := 47) F 51 dX11_bestPlace_47 (by decide) ?_
          exact u_topi hv6 hj
      refine u_istore_n (lv' := [(3, .int v6), (2, .int v4), (5, .int q3), (0, .ref (adr G (11, 0, 0))), (1, .int x1), (4, .int x4)]) (pc := 51) F dX11_bestPlace_51 rfl hY (by decide) rfl ?_
      obtain ⟨v8, hv8, h⟩ := d_lt_some h
      refine u_iinc (lv' := [(4, .int v8), (3, .int v6), (2, .int v4), (5, .int q3), (0, .ref (adr G (11, 0, 0))), (1, .int x1)]) (pc := 52) F dX11_bestPlace_52 5 rfl hv8.symm hY (by decide) rfl ?_
      refine u_goto (pc := 55) F 7 dX11_bestPlace_55 (by decide) ?_
      refine u_lv (lv' := [(0, .ref (adr G (11, 0, 0))), (1, .int x1), (2, .int v4), (3, .int v6), (4, .int v8)]) [4, 5, 2, 1, 0] rfl ?_
      exact ih q2.2 x1 v4 v6 v8 h
set_option maxHeartbeats 4000000 in
set_option maxRecDepth 100000 in
theorem c_X11_bestPlace (G : G0) (hL : Im G) (x1 : Int32) (σ : Mem) (mo : Grp) (e_mo : σ 11 0 = mo) (r : Int32) (mo' : Grp) (h : fX11_bestPlace mo x1 = some (r, mo')) :
    CI G yX11_bestPlace cX11_bestPlace 6 .int 8 [.ref (adr G (11, 0, 0)), .int x1] σ r (upM σ 11 0 (mo')) := by
  refine CI.of (by decide +kernel) (Nat.le_of_ble_eq_true rfl) (fun Y hY F hR => ?_)
  unfold fX11_bestPlace at h
  have F : Fx Y G cX11_bestPlace RX11 8 := F
  refine u_mem (σ2 := (upM σ 11 0 mo)) (by rw [← e_mo]; simp only [upM_self]) ?_
  refine u_lv (lv' := [(0, .ref (adr G (11, 0, 0))), (1, .int x1)]) [0, 1] rfl ?_
  refine u_iconst (v := 0) (pc := 0) F dX11_bestPlace_0 (by decide) ?_
  refine u_istore_n (lv' := [(2, .int (0 : Int32)), (0, .ref (adr G (11, 0, 0))), (1, .int x1)]) (pc := 1) F dX11_bestPlace_1 rfl hY (by decide) rfl ?_
  refine u_iconst (v := 0) (pc := 2) F dX11_bestPlace_2 (by decide) ?_
  refine u_istore_n (lv' := [(3, .int (0 : Int32)), (2, .int (0 : Int32)), (0, .ref (adr G (11, 0, 0))), (1, .int x1)]) (pc := 3) F dX11_bestPlace_3 rfl hY (by decide) rfl ?_
  refine u_iconst (v := 0) (pc := 4) F dX11_bestPlace_4 (by decide) ?_
  refine u_istore (lv' := [(4, .int (0 : Int32)), (3, .int (0 : Int32)), (2, .int (0 : Int32)), (0, .ref (adr G (11, 0, 0))), (1, .int x1)]) (pc := 5) F dX11_bestPlace_5 hY (by decide) rfl ?_
  refine u_lv (lv' := [(0, .ref (adr G (11, 0, 0))), (1, .int x1), (2, .int (0 : Int32)), (3, .int (0 : Int32)), (4, .int (0 : Int32))]) [3, 4, 2, 1, 0] rfl ?_
  exact wX11_bestPlace_7 Y G hL σ F hY r mo' hR 1000 mo x1 (0 : Int32) (0 : Int32) (0 : Int32) h
/- RollingCodesModel.fob -/
def fX11_fob (mo : Grp) (x1 : Int32) (x2 : Int32) : Option (Int32 × Grp) :=
    d_bd (fX11_isFob mo x1) fun q1 => if q1 = 0 then (some ((-1000000001 : Int32), mo)) else (if x2 = (0 : Int32) then (d_ab x1 5 <| some (mo 9 x1.toNatClampNeg, mo)) else (if x2 = (1 : Int32) then (d_ab x1 59 <| some (mo 14 x1.toNatClampNeg, mo)) else (if x2 = (2 : Int32) then (d_ab x1 5 <| some (mo 11 x1.toNatClampNeg, mo)) else (if x2 = (3 : Int32) then (d_ab x1 5 <| some (mo 12 x1.toNatClampNeg, mo)) else (if x2 = (4 : Int32) then (d_ab ((5 : Int32) + x1) 59 <| some (mo 14 ((5 : Int32) + x1).toNatClampNeg, mo)) else (if x2 = (5 : Int32) then (d_ab ((10 : Int32) + x1) 59 <| some (mo 14 ((10 : Int32) + x1).toNatClampNeg, mo)) else (if x2 = (6 : Int32) then (d_bd (fX11_bestPlace mo x1) fun q16 => some (q16.1, q16.2)) else (some ((-1000000002 : Int32), mo)))))))))
set_option maxHeartbeats 4000000 in
set_option maxRecDepth 100000 in
theorem c_X11_fob (G : G0) (hL : Im G) (x1 : Int32) (x2 : Int32) (σ : Mem) (mo : Grp) (e_mo : σ 11 0 = mo) (r : Int32) (mo' : Grp) (h : fX11_fob mo x1 x2 = some (r, mo')) :
    CI G yX11_fob cX11_fob 3 .int 9 [.ref (adr G (11, 0, 0)), .int x1, .int x2] σ r (upM σ 11 0 (mo')) := by
  refine CI.of (by decide +kernel) (Nat.le_of_ble_eq_true rfl) (fun Y hY F hR => ?_)
  unfold fX11_fob at h
  have F : Fx Y G cX11_fob RX11 9 := F
  refine u_mem (σ2 := (upM σ 11 0 mo)) (by rw [← e_mo]; simp only [upM_self]) ?_
  refine u_lv (lv' := [(0, .ref (adr G (11, 0, 0))), (1, .int x1), (2, .int x2)]) [0, 1, 2] rfl ?_
  refine u_aload_n (pc := 0) F dX11_fob_0 0 rfl rfl ?_
  refine u_iload_n (pc := 1) F dX11_fob_1 1 rfl rfl ?_
  obtain ⟨q1, hq1, h⟩ := d_bd_some h
  refine u_calli (pc := 2) F (As := [.int x1]) (c_X11_isFob G hL x1 (upM σ 11 0 mo) mo (upM_same _ _ _ _) q1 hq1) yv_X11_isFob ml_11_233 (hL 11 0 0 (by decide) rfl) rfl (by decide) rfl rfl (Nat.le_of_ble_eq_true rfl) dX11_fob_2 ?_
  refine u_if_ne (pc := 5) F 11 dX11_fob_5 (by decide) (fun c2 => ?_) (fun c2 => ?_)
  · rw [if_neg c2] at h
    refine u_iload_n (pc := 11) F dX11_fob_11 2 rfl rfl ?_
    by_cases e3 : x2 = (0 : Int32)
    · rw [if_pos e3] at h
      refine u_table (pc := 12) F dX11_fob_12 (off := 44) 56 (by rw [e3]; decide) (by rw [e3]; decide) (by rw [e3]; rfl) (by decide) ?_
      refine u_aload_n (pc := 56) F dX11_fob_56 0 rfl rfl ?_
      refine u_getA (pc := 57) F dX11_fob_57 (hL 11 0 0 (by decide) rfl) ck_11 fl_11_19 rfl (by decide) (by decide) ?_
      refine u_iload_n (pc := 60) F dX11_fob_60 1 rfl rfl ?_
      obtain ⟨b4, h⟩ := d_ab_some h
      refine u_aldI1 (pc := 61) F dX11_fob_61 (hL 11 0 9 (by decide) rfl) rfl b4 ?_
      have h1 := Option.some.inj h
      obtain ⟨hj0, hr0⟩ := Prod.mk.inj h1
      subst hj0
      subst hr0
      exact hR _ _ rfl dX11_fob_62
    rw [if_neg e3] at h
    by_cases e5 : x2 = (1 : Int32)
    · rw [if_pos e5] at h
      refine u_table (pc := 12) F dX11_fob_12 (off := 51) 63 (by rw [e5]; decide) (by rw [e5]; decide) (by rw [e5]; rfl) (by decide) ?_
      refine u_aload_n (pc := 63) F dX11_fob_63 0 rfl rfl ?_
      refine u_getA (pc := 64) F dX11_fob_64 (hL 11 0 0 (by decide) rfl) ck_11 fl_11_34 rfl (by decide) (by decide) ?_
      refine u_iload_n (pc := 67) F dX11_fob_67 1 rfl rfl ?_
      obtain ⟨b6, h⟩ := d_ab_some h
      refine u_aldI1 (pc := 68) F dX11_fob_68 (hL 11 0 14 (by decide) rfl) rfl b6 ?_
      have h1 := Option.some.inj h
      obtain ⟨hj0, hr0⟩ := Prod.mk.inj h1
      subst hj0
      subst hr0
      exact hR _ _ rfl dX11_fob_69
    rw [if_neg e5] at h
    by_cases e7 : x2 = (2 : Int32)
    · rw [if_pos e7] at h
      refine u_table (pc := 12) F dX11_fob_12 (off := 58) 70 (by rw [e7]; decide) (by rw [e7]; decide) (by rw [e7]; rfl) (by decide) ?_
      refine u_aload_n (pc := 70) F dX11_fob_70 0 rfl rfl ?_
      refine u_getA (pc := 71) F dX11_fob_71 (hL 11 0 0 (by decide) rfl) ck_11 fl_11_25 rfl (by decide) (by decide) ?_
      refine u_iload_n (pc := 74) F dX11_fob_74 1 rfl rfl ?_
      obtain ⟨b8, h⟩ := d_ab_some h
      refine u_aldI1 (pc := 75) F dX11_fob_75 (hL 11 0 11 (by decide) rfl) rfl b8 ?_
      have h1 := Option.some.inj h
      obtain ⟨hj0, hr0⟩ := Prod.mk.inj h1
      subst hj0
      subst hr0
      exact hR _ _ rfl dX11_fob_76
    rw [if_neg e7] at h
    by_cases e9 : x2 = (3 : Int32)
    · rw [if_pos e9] at h
      refine u_table (pc := 12) F dX11_fob_12 (off := 65) 77 (by rw [e9]; decide) (by rw [e9]; decide) (by rw [e9]; rfl) (by decide) ?_
      refine u_aload_n (pc := 77) F dX11_fob_77 0 rfl rfl ?_
      refine u_getA (pc := 78) F dX11_fob_78 (hL 11 0 0 (by decide) rfl) ck_11 fl_11_28 rfl (by decide) (by decide) ?_
      refine u_iload_n (pc := 81) F dX11_fob_81 1 rfl rfl ?_
      obtain ⟨b10, h⟩ := d_ab_some h
      refine u_aldI1 (pc := 82) F dX11_fob_82 (hL 11 0 12 (by decide) rfl) rfl b10 ?_
      have h1 := Option.some.inj h
      obtain ⟨hj0, hr0⟩ := Prod.mk.inj h1
      subst hj0
      subst hr0
      exact hR _ _ rfl dX11_fob_83
    rw [if_neg e9] at h
    by_cases e11 : x2 = (4 : Int32)
    · rw [if_pos e11] at h
      refine u_table (pc := 12) F dX11_fob_12 (off := 72) 84 (by rw [e11]; decide) (by rw [e11]; decide) (by rw [e11]; rfl) (by decide) ?_
      refine u_aload_n (pc := 84) F dX11_fob_84 0 rfl rfl ?_
      refine u_getA (pc := 85) F dX11_fob_85 (hL 11 0 0 (by decide) rfl) ck_11 fl_11_34 rfl (by decide) (by decide) ?_
      refine u_iconst (v := 5) (pc := 88) F dX11_fob_88 (by decide) ?_
      refine u_iload_n (pc := 89) F dX11_fob_89 1 rfl rfl ?_
      refine u_iadd (pc := 90) F dX11_fob_90 ?_
      obtain ⟨b12, h⟩ := d_ab_some h
      refine u_aldI1 (pc := 91) F dX11_fob_91 (hL 11 0 14 (by decide) rfl) rfl b12 ?_
      have h1 := Option.some.inj h
      obtain ⟨hj0, hr0⟩ := Prod.mk.inj h1
      subst hj0
      subst hr0
      exact hR _ _ rfl dX11_fob_92
    rw [if_neg e11] at h
    by_cases e13 : x2 = (5 : Int32)
    · rw [if_pos e13] at h
      refine u_table (pc := 12) F dX11_fob_12 (off := 81) 93 (by rw [e13]; decide) (by rw [e13]; decide) (by rw [e13]; rfl) (by decide) ?_
      refine u_aload_n (pc := 93) F dX11_fob_93 0 rfl rfl ?_
      refine u_getA (pc := 94) F dX11_fob_94 (hL 11 0 0 (by decide) rfl) ck_11 fl_11_34 rfl (by decide) (by decide) ?_
      refine u_bipush (v := 10) (pc := 97) F dX11_fob_97 (by decide) ?_
      refine u_iload_n (pc := 99) F dX11_fob_99 1 rfl rfl ?_
      refine u_iadd (pc := 100) F dX11_fob_100 ?_
      obtain ⟨b14, h⟩ := d_ab_some h
      refine u_aldI1 (pc := 101) F dX11_fob_101 (hL 11 0 14 (by decide) rfl) rfl b14 ?_
      have h1 := Option.some.inj h
      obtain ⟨hj0, hr0⟩ := Prod.mk.inj h1
      subst hj0
      subst hr0
      exact hR _ _ rfl dX11_fob_102
    rw [if_neg e13] at h
    by_cases e15 : x2 = (6 : Int32)
    · rw [if_pos e15] at h
      refine u_table (pc := 12) F dX11_fob_12 (off := 91) 103 (by rw [e15]; decide) (by rw [e15]; decide) (by rw [e15]; rfl) (by decide) ?_
      refine u_aload_n (pc := 103) F dX11_fob_103 0 rfl rfl ?_
      refine u_iload_n (pc := 104) F dX11_fob_104 1 rfl rfl ?_
      obtain ⟨q16, hq16, h⟩ := d_bd_some h
      refine u_calli (pc := 105) F (As := [.int x1]) (c_X11_bestPlace G hL x1 (upM σ 11 0 mo) mo (upM_same _ _ _ _) q16.1 q16.2 hq16) yv_X11_bestPlace ml_11_238 (hL 11 0 0 (by decide) rfl) rfl (by decide) rfl rfl (Nat.le_of_ble_eq_true rfl) dX11_fob_105 ?_
      refine u_mem (σ2 := (upM σ 11 0 q16.2)) (by first | (rw [upM_upM]; done) | (rw [upM_mid _ _ _ _ (by decide)]; done) | (rw [upM_mid _ _ _ _ (by decide), upM_upM]; done) | (rw [upM_mid _ _ _ _ (by decide), upM_mid _ _ _ _ (by decide)]; done)) ?_
      have h1 := Option.some.inj h
      obtain ⟨hj0, hr0⟩ := Prod.mk.inj h1
      subst hj0
      subst hr0
      exact hR _ _ rfl dX11_fob_108
    rw [if_neg e15] at h
    refine u_tableOut (pc := 12) F dX11_fob_12 109 (by
      have j0 : ¬ x2.toInt = 0 := i32_ne e3
      have j1 : ¬ x2.toInt = 1 := i32_ne e5
      have j2 : ¬ x2.toInt = 2 := i32_ne e7
      have j3 : ¬ x2.toInt = 3 := i32_ne e9
      have j4 : ¬ x2.toInt = 4 := i32_ne e11
      have j5 : ¬ x2.toInt = 5 := i32_ne e13
      have j6 : ¬ x2.toInt = 6 := i32_ne e15
      omega) (by decide) ?_
    refine u_ldc (v := -1000000002) (pc := 109) F dX11_fob_109 kc_11_111 ?_
    have h1 := Option.some.inj h
    obtain ⟨hj0, hr0⟩ := Prod.mk.inj h1
    subst hj0
    subst hr0
    exact hR _ _ rfl dX11_fob_111
  · rw [if_pos c2] at h
    refine u_ldc (v := -1000000001) (pc := 8) F dX11_fob_8 kc_11_237 ?_
    have h1 := Option.some.inj h
    obtain ⟨hj0, hr0⟩ := Prod.mk.inj h1
    subst hj0
    subst hr0
    exact hR _ _ rfl dX11_fob_10
/- RollingCodesModel.usefulAt -/
def fX11_usefulAt_4  : Nat → Grp → Int32 → Int32 → Int32 → Option (Int32 × Grp)
  | 0, _, _, _, _ => none
  | fu + 1, mo, x1, x2, x3 =>
    d_ab (16 : Int32) 59 <| if x3 < (mo 14 (16 : Int32).toNatClampNeg) then (d_bd (fX11_keepNow mo) fun q3 => d_ab ((17 : Int32) + x3) 59 <| d_bd (fX11_hears q3 x1 (q3 14 ((17 : Int32) + x3).toNatClampNeg)) fun q5 => if q5.1 = 0 then (d_lt (x2 ||| (0 : Int32)) fun v7 => d_bd (fX11_putBack q5.2) fun q8 => d_lt (x3 + (1 : Int32)) fun v9 => fX11_usefulAt_4 fu q8 x1 v7 v9) else (d_lt (x2 ||| ((1 : Int32) <<< (x3 &&& 31))) fun v10 => d_bd (fX11_putBack q5.2) fun q11 => d_lt (x3 + (1 : Int32)) fun v12 => fX11_usefulAt_4 fu q11 x1 v10 v12)) else (some (x2, mo))
def fX11_usefulAt (mo : Grp) (x1 : Int32) : Option (Int32 × Grp) :=
    fX11_usefulAt_4 1000 mo x1 (0 : Int32) (0 : Int32)
set_option maxHeartbeats 4000000 in
set_option maxRecDepth 100000 in
theorem wX11_usefulAt_4 (Y : Dy) (G : G0) (hL : Im G) (σ : Mem) (F : Fx Y G cX11_usefulAt RX11 4) (hY : Y.2.2.2.2.2.2.2.2.2.2.2.1 = 4) (r : Int32) (mo' : Grp) (hR : ∀ (pc : Nat) (lv : List (Nat × Value)), narrow .int (.int r) = .int r → decode cX11_usefulAt pc = .ok (.ireturn, 1) → U Y G (upM σ 11 0 (mo')) pc lv [.int r]) :
    ∀ (fu : Nat) (mo : Grp) (x1 : Int32) (x2 : Int32) (x3 : Int32), fX11_usefulAt_4 fu mo x1 x2 x3 = some (r, mo') → U Y G (upM σ 11 0 mo) 4 [(0, .ref (adr G (11, 0, 0))), (1, .int x1), (2, .int x2), (3, .int x3)] [] := by
  intro fu
  induction fu with
  | zero =>
    intro mo x1 x2 x3 h
    rw [fX11_usefulAt_4] at h
    cases h
  | succ fu ih =>
    intro mo x1 x2 x3 h
    rw [fX11_usefulAt_4] at h
    refine u_iload_n (pc := 4) F dX11_usefulAt_4 3 rfl rfl ?_
    refine u_aload_n (pc := 5) F dX11_usefulAt_5 0 rfl rfl ?_
    refine u_getA (pc := 6) F dX11_usefulAt_6 (hL 11 0 0 (by decide) rfl) ck_11 fl_11_34 rfl (by decide) (by decide) ?_
    refine u_bipush (v := 16) (pc := 9) F dX11_usefulAt_9 (by decide) ?_
    obtain ⟨b1, h⟩ := d_ab_some h
    refine u_aldI1 (pc := 11) F dX11_usefulAt_11 (hL 11 0 14 (by decide) rfl) rfl b1 ?_
    refine u_icmp_ge (pc := 12) F 56 dX11_usefulAt_12 (by decide) (fun c2 => ?_) (fun c2 => ?_)
    · rw [if_neg c2] at h
      refine u_iload_n (pc := 56) F dX11_usefulAt_56 2 rfl rfl ?_
      have h1 := Option.some.inj h
      obtain ⟨hj0, hr0⟩ := Prod.mk.inj h1
      subst hj0
      subst hr0
      exact hR _ _ rfl dX11_usefulAt_57
    · rw [if_pos c2] at h
      refine u_aload_n (pc := 15) F dX11_usefulAt_15 0 rfl rfl ?_
      obtain ⟨q3, hq3, h⟩ := d_bd_some h
      refine u_callv (pc := 16) F (As := []) (c_X11_keepNow G hL (upM σ 11 0 mo) mo (upM_same _ _ _ _) q3 hq3) yv_X11_keepNow ml_11_275 (hL 11 0 0 (by decide) rfl) rfl (by decide) rfl rfl (Nat.le_of_ble_eq_true rfl) dX11_usefulAt_16 ?_
      refine u_mem (σ2 := (upM σ 11 0 q3)) (by first | (rw [upM_upM]; done) | (rw [upM_mid _ _ _ _ (by decide)]; done) | (rw [upM_mid _ _ _ _ (by decide), upM_upM]; done) | (rw [upM_mid _ _ _ _ (by decide), upM_mid _ _ _ _ (by decide)]; done)) ?_
      refine u_iload_n (pc := 19) F dX11_usefulAt_19 2 rfl rfl ?_
      refine u_aload_n (pc := 20) F dX11_usefulAt_20 0 rfl rfl ?_
      refine u_iload_n (pc := 21) F dX11_usefulAt_21 1 rfl rfl ?_
      refine u_aload_n (pc := 22) F dX11_usefulAt_22 0 rfl rfl ?_
      refine u_getA (pc := 23) F dX11_usefulAt_23 (hL 11 0 0 (by decide) rfl) ck_11 fl_11_34 rfl (by decide) (by decide) ?_
      refine u_bipush (v := 17) (pc := 26) F dX11_usefulAt_26 (by decide) ?_
      refine u_iload_n (pc := 28) F dX11_usefulAt_28 3 rfl rfl ?_
      refine u_iadd (pc := 29) F dX11_usefulAt_29 ?_
      obtain ⟨b4, h⟩ := d_ab_some h
      refine u_aldI1 (pc := 30) F dX11_usefulAt_30 (hL 11 0 14 (by decide) rfl) rfl b4 ?_
      obtain ⟨q5, hq5, h⟩ := d_bd_some h
      refine u_calli (pc := 31) F (As := [.int x1, .int (q3 14 ((17 : Int32) + x3).toNatClampNeg)]) (c_X11_hears G hL x1 (q3 14 ((17 : Int32) + x3).toNatClampNeg) (upM σ 11 0 q3) q3 (upM_same _ _ _ _) q5.1 q5.2 hq5) yv_X11_hears ml_11_214 (hL 11 0 0 (by decide) rfl) rfl (by decide) rfl rfl (Nat.le_of_ble_eq_true rfl) dX11_usefulAt_31 ?_
      refine u_mem (σ2 := (upM σ 11 0 q5.2)) (by first | (rw [upM_upM]; done) | (rw [upM_mid _ _ _ _ (by decide)]; done) | (rw [upM_mid _ _ _ _ (by decide), upM_upM]; done) | (rw [upM_mid _ _ _ _ (by decide), upM_mid _ _ _ _ (by decide)]; done)) ?_
      refine u_if_eq (pc := 34) F 43 dX11_usefulAt_34 (by decide) (fun c6 => ?_) (fun c6 => ?_)
      · rw [if_pos c6] at h
        refine u_iconst (v := 0) (pc := 43) F dX11_usefulAt_43 (by decide) ?_
        refine u_ior (pc := 44) F dX11_usefulAt_44 ?_
        obtain ⟨v7, hv7, h⟩ := d_lt_some h
        refine u_topi hv7 ?_
        refine u_istore_n (lv' := [(2, .int v7), (0, .ref (adr G (11, 0, 0))), (1, .int x1), (3, .int x3)]) (pc := 45) F dX11_usefulAt_45 rfl hY (by decide) rfl ?_
        refine u_aload_n (pc := 46) F dX11_usefulAt_46 1 rfl rfl ?_
        obtain ⟨q8, hq8, h⟩ := d_bd_some h
        refine u_callv (pc := 47) F (As := []) (c_X11_putBack G hL (upM σ 11 0 q5.2) q5.2 (upM_same _ _ _ _) q8 hq8) yv_X11_putBack ml_11_278 (hL 11 0 0 (by decide) rfl) rfl (by decide) rfl rfl (Nat.le_of_ble_eq_true rfl) dX11_usefulAt_47 ?_
        refine u_mem (σ2 := (upM σ 11 0 q8)) (by first | (rw [upM_upM]; done) | (rw [upM_mid _ _ _ _ (by decide)]; done) | (rw [upM_mid _ _ _ _ (by decide), upM_upM]; done) | (rw [upM_mid _ _ _ _ (by decide), upM_mid _ _ _ _ (by decide)]; done)) ?_
        obtain ⟨v9, hv9, h⟩ := d_lt_some h
        refine u_iinc (lv' := [(3, .int v9), (2, .int v7), (0, .ref (adr G (11, 0, 0))), (1, .int x1)]) (pc := 50) F dX11_usefulAt_50 3 rfl hv9.symm hY (by decide) rfl ?_
        refine u_goto (pc := 53) F 4 dX11_usefulAt_53 (by decide) ?_
        refine u_lv (lv' := [(0, .ref (adr G (11, 0, 0))), (1, .int x1), (2, .int v7), (3, .int v9)]) [2, 3, 1, 0] rfl ?_
        exact ih q8 x1 v7 v9 h
      · rw [if_neg c6] at h
        refine u_iconst (v := 1) (pc := 37) F dX11_usefulAt_37 (by decide) ?_
        refine u_iload_n (pc := 38) F dX11_usefulAt_38 3 rfl rfl ?_
        refine u_ishl (pc := 39) F dX11_usefulAt_39 ?_
        refine u_goto (pc := 40) F 44 dX11_usefulAt_40 (by decide) ?_
        refine u_ior (pc := 44) F dX11_usefulAt_44 ?_
        obtain ⟨v10, hv10, h⟩ := d_lt_some h
        refine u_topi hv10 ?_
        refine u_istore_n (lv' := [(2, .int v10), (0, .ref (adr G (11, 0, 0))), (1, .int x1), (3, .int x3)]) (pc := 45) F dX11_usefulAt_45 rfl hY (by decide) rfl ?_
        refine u_aload_n (pc := 46) F dX11_usefulAt_46 1 rfl rfl ?_
        obtain ⟨q11, hq11, h⟩ := d_bd_some h
        refine u_callv (pc := 47) F (As := []) (c_X11_putBack G hL (upM σ 11 0 q5.2) q5.2 (upM_same _ _ _ _) q11 hq11) yv_X11_putBack ml_11_278 (hL 11 0 0 (by decide) rfl) rfl (by decide) rfl rfl (Nat.le_of_ble_eq_true rfl) dX11_usefulAt_47 ?_
        refine u_mem (σ2 := (upM σ 11 0 q11)) (by first | (rw [upM_upM]; done) | (rw [upM_mid _ _ _ _ (by decide)]; done) | (rw [upM_mid _ _ _ _ (by decide), upM_upM]; done) | (rw [upM_mid _ _ _ _ (by decide), upM_mid _ _ _ _ (by decide)]; done)) ?_
        obtain ⟨v12, hv12, h⟩ := d_lt_some h
        refine u_iinc (lv' := [(3, .int v12), (2, .int v10), (0, .ref (adr G (11, 0, 0))), (1, .int x1)]) (pc := 50) F dX11_usefulAt_50 3 rfl hv12.symm hY (by decide) rfl ?_
        refine u_goto (pc := 53) F 4 dX11_usefulAt_53 (by decide) ?_
        refine u_lv (lv' := [(0, .ref (adr G (11, 0, 0))), (1, .int x1), (2, .int v10), (3, .int v12)]) [2, 3, 1, 0] rfl ?_
        exact ih q11 x1 v10 v12 h
set_option maxHeartbeats 4000000 in
set_option maxRecDepth 100000 in
theorem c_X11_usefulAt (G : G0) (hL : Im G) (x1 : Int32) (σ : Mem) (mo : Grp) (e_mo : σ 11 0 = mo) (r : Int32) (mo' : Grp) (h : fX11_usefulAt mo x1 = some (r, mo')) :
    CI G yX11_usefulAt cX11_usefulAt 4 .int 4 [.ref (adr G (11, 0, 0)), .int x1] σ r (upM σ 11 0 (mo')) := by
  refine CI.of (by decide +kernel) (Nat.le_of_ble_eq_true rfl) (fun Y hY F hR => ?_)
  unfold fX11_usefulAt at h
  have F : Fx Y G cX11_usefulAt RX11 4 := F
  refine u_mem (σ2 := (upM σ 11 0 mo)) (by rw [← e_mo]; simp only [upM_self]) ?_
  refine u_lv (lv' := [(0, .ref (adr G (11, 0, 0))), (1, .int x1)]) [0, 1] rfl ?_
  refine u_iconst (v := 0) (pc := 0) F dX11_usefulAt_0 (by decide) ?_
  refine u_istore_n (lv' := [(2, .int (0 : Int32)), (0, .ref (adr G (11, 0, 0))), (1, .int x1)]) (pc := 1) F dX11_usefulAt_1 rfl hY (by decide) rfl ?_
  refine u_iconst (v := 0) (pc := 2) F dX11_usefulAt_2 (by decide) ?_
  refine u_istore_n (lv' := [(3, .int (0 : Int32)), (2, .int (0 : Int32)), (0, .ref (adr G (11, 0, 0))), (1, .int x1)]) (pc := 3) F dX11_usefulAt_3 rfl hY (by decide) rfl ?_
  refine u_lv (lv' := [(0, .ref (adr G (11, 0, 0))), (1, .int x1), (2, .int (0 : Int32)), (3, .int (0 : Int32))]) [2, 3, 1, 0] rfl ?_
  exact wX11_usefulAt_4 Y G hL σ F hY r mo' hR 1000 mo x1 (0 : Int32) (0 : Int32) h
