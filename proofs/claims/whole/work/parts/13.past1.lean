/- RollingCodes$Past.forget -/
def fX3_forget (σ : Mem) : Option (Mem) :=
    d_lt (upM σ 3 0 (wr (σ 3 0) 0 2 (0 : Int32))) fun m1 => some m1
set_option maxHeartbeats 4000000 in
set_option maxRecDepth 100000 in
theorem c_X3_forget (G : G0) (hL : In G) (σ : Mem) (σ' : Mem) (h : fX3_forget σ = some σ') :
    CV G yX3_forget cX3_forget 1 1 [.ref (adr G (3, 0, 0))] σ (σ') := by
  refine CV.of (by decide +kernel) (Nat.le_of_ble_eq_true rfl) (fun Y hY F hR => ?_)
  unfold fX3_forget at h
  have F : Fx Y G cX3_forget RX3 1 := F
  refine u_lv (lv' := [(0, .ref (adr G (3, 0, 0)))]) [0] rfl ?_
  refine u_aload_n (pc := 0) F dX3_forget_0 0 rfl rfl ?_
  refine u_iconst (v := 0) (pc := 1) F dX3_forget_1 (by decide) ?_
  refine u_put (pc := 2) F dX3_forget_2 (hL 3 0 0 (by decide) rfl) ck_3 fl_3_28 rfl (by decide) rfl (ty0 := .int) (by decide +kernel) rfl rfl ?_
  obtain ⟨m1, hm1, h⟩ := d_lt_some h
  refine u_mem hm1 ?_
  have h1 := Option.some.inj h
  subst h1
  exact hR _ _ dX3_forget_5
/- RollingCodes$Images.forget -/
def fX2_forget_2  : Nat → Mem → Int32 → Option (Mem)
  | 0, _, _ => none
  | fu + 1, σ, x1 =>
    if x1 < (2 : Int32) then (d_ab x1 2 <| d_lt (upM σ 2 0 (wr (σ 2 0) 3 x1.toNatClampNeg (0 : Int32))) fun m3 => d_lt (x1 + (1 : Int32)) fun v4 => fX2_forget_2 fu m3 v4) else (some σ)
def fX2_forget (σ : Mem) : Option (Mem) :=
    fX2_forget_2 1000 σ (0 : Int32)
set_option maxHeartbeats 4000000 in
set_option maxRecDepth 100000 in
theorem wX2_forget_2 (Y : Dy) (G : G0) (hL : In G) (F : Fx Y G cX2_forget RX2 1) (hY : Y.2.2.2.2.2.2.2.2.2.2.2.1 = 2) (σ' : Mem) (hR : ∀ (pc : Nat) (lv : List (Nat × Value)), decode cX2_forget pc = .ok (.return_, 1) → U Y G σ' pc lv []) :
    ∀ (fu : Nat) (σ : Mem) (x1 : Int32), fX2_forget_2 fu σ x1 = some σ' → U Y G σ 2 [(0, .ref (adr G (2, 0, 0))), (1, .int x1)] [] := by
  intro fu
  induction fu with
  | zero =>
    intro σ x1 h
    rw [fX2_forget_2] at h
    cases h
  | succ fu ih =>
    intro σ x1 h
    rw [fX2_forget_2] at h
    refine u_iload_n (pc := 2) F dX2_forget_2 1 rfl rfl ?_
    refine u_iconst (v := 2) (pc := 3) F dX2_forget_3 (by decide) ?_
    refine u_icmp_ge (pc := 4) F 20 dX2_forget_4 (by decide) (fun c1 => ?_) (fun c1 => ?_)
    · rw [if_neg c1] at h
      have h1 := Option.some.inj h
      subst h1
      exact hR _ _ dX2_forget_20
    · rw [if_pos c1] at h
      refine u_aload_n (pc := 7) F dX2_forget_7 0 rfl rfl ?_
      refine u_getA (pc := 8) F dX2_forget_8 (hL 2 0 0 (by decide) rfl) ck_2 fl_2_21 rfl (by decide) (by decide) ?_
      refine u_iload_n (pc := 11) F dX2_forget_11 1 rfl rfl ?_
      refine u_iconst (v := 0) (pc := 12) F dX2_forget_12 (by decide) ?_
      obtain ⟨b2, h⟩ := d_ab_some h
      refine u_astZ (pc := 13) F dX2_forget_13 (hL 2 0 3 (by decide) rfl) rfl b2 rfl (v2 := (0 : Int32)) ?_
      obtain ⟨m3, hm3, h⟩ := d_lt_some h
      refine u_mem hm3 ?_
      obtain ⟨v4, hv4, h⟩ := d_lt_some h
      refine u_iinc (lv' := [(1, .int v4), (0, .ref (adr G (2, 0, 0)))]) (pc := 14) F dX2_forget_14 1 rfl hv4.symm hY (by decide) rfl ?_
      refine u_goto (pc := 17) F 2 dX2_forget_17 (by decide) ?_
      refine u_lv (lv' := [(0, .ref (adr G (2, 0, 0))), (1, .int v4)]) [1, 0] rfl ?_
      exact ih m3 v4 h
set_option maxHeartbeats 4000000 in
set_option maxRecDepth 100000 in
theorem c_X2_forget (G : G0) (hL : In G) (σ : Mem) (σ' : Mem) (h : fX2_forget σ = some σ') :
    CV G yX2_forget cX2_forget 2 1 [.ref (adr G (2, 0, 0))] σ (σ') := by
  refine CV.of (by decide +kernel) (Nat.le_of_ble_eq_true rfl) (fun Y hY F hR => ?_)
  unfold fX2_forget at h
  have F : Fx Y G cX2_forget RX2 1 := F
  refine u_lv (lv' := [(0, .ref (adr G (2, 0, 0)))]) [0] rfl ?_
  refine u_iconst (v := 0) (pc := 0) F dX2_forget_0 (by decide) ?_
  refine u_istore_n (lv' := [(1, .int (0 : Int32)), (0, .ref (adr G (2, 0, 0)))]) (pc := 1) F dX2_forget_1 rfl hY (by decide) rfl ?_
  refine u_lv (lv' := [(0, .ref (adr G (2, 0, 0))), (1, .int (0 : Int32))]) [1, 0] rfl ?_
  exact wX2_forget_2 Y G hL F hY σ' hR 1000 σ (0 : Int32) h
/- RollingCodes$Past.remember -/
def fX3_remember (σ : Mem) : Option (Mem) :=
    d_ab (σ 3 0 0 1) 16 <| d_bd (fX7_copyFrom (σ 7 (2 + (σ 3 0 0 1).toNatClampNeg)) (σ 7 0)) fun q3 => d_lt (upM σ 7 (2 + (σ 3 0 0 1).toNatClampNeg) q3) fun m4 => d_lt (upM m4 3 0 (wr (m4 3 0) 0 1 (jrem ((m4 3 0 0 1) + (1 : Int32)) (16 : Int32)))) fun m5 => d_lt (if (16 : Int32) < ((m5 3 0 0 2) + (1 : Int32)) then (16 : Int32) else ((m5 3 0 0 2) + (1 : Int32))) fun v6 => d_lt (upM m5 3 0 (wr (m5 3 0) 0 2 v6)) fun m7 => some m7
set_option maxHeartbeats 4000000 in
set_option maxRecDepth 100000 in
theorem c_X3_remember (G : G0) (hL : In G) (σ : Mem) (σ' : Mem) (h : fX3_remember σ = some σ') :
    CV G yX3_remember cX3_remember 2 2 [.ref (adr G (3, 0, 0)), .ref (adr G (7, 0, 0))] σ (σ') := by
  refine CV.of (by decide +kernel) (Nat.le_of_ble_eq_true rfl) (fun Y hY F hR => ?_)
  unfold fX3_remember at h
  have F : Fx Y G cX3_remember RX3 2 := F
  refine u_lv (lv' := [(0, .ref (adr G (3, 0, 0))), (1, .ref (adr G (7, 0, 0)))]) [0, 1] rfl ?_
  refine u_aload_n (pc := 0) F dX3_remember_0 0 rfl rfl ?_
  refine u_getA (pc := 1) F dX3_remember_1 (hL 3 0 0 (by decide) rfl) ck_3 fl_3_11 rfl (by decide) (by decide) ?_
  refine u_aload_n (pc := 4) F dX3_remember_4 0 rfl rfl ?_
  refine u_get (pc := 5) F dX3_remember_5 (hL 3 0 0 (by decide) rfl) ck_3 fl_3_20 rfl (by decide) rfl ?_
  obtain ⟨b1, h⟩ := d_ab_some h
  have hk2 : 2 + (σ 3 0 0 1).toNatClampNeg < 24 := so_lt b1 (by decide)
  refine u_aldO (pc := 8) F dX3_remember_8 (hL 3 0 1 (by decide) rfl) rfl b1 ?_
  refine u_aload_n (pc := 9) F dX3_remember_9 1 rfl rfl ?_
  obtain ⟨q3, hq3, h⟩ := d_bd_some h
  refine u_callv (pc := 10) F (As := [.ref (adr G (7, 0, 0))]) (c_X7_copyFrom G hL (2 + (σ 3 0 0 1).toNatClampNeg) hk2 0 (by decide) (by omega) σ (σ 7 (2 + (σ 3 0 0 1).toNatClampNeg)) (σ 7 0) (rfl) (rfl) q3 hq3) yv_X7_copyFrom ml_3_24 (hL 7 (2 + (σ 3 0 0 1).toNatClampNeg) 0 hk2 rfl) rfl (by decide) rfl rfl (Nat.le_of_ble_eq_true rfl) dX3_remember_10 ?_
  obtain ⟨m4, hm4, h⟩ := d_lt_some h
  refine u_mem hm4 ?_
  refine u_aload_n (pc := 13) F dX3_remember_13 0 rfl rfl ?_
  refine u_aload_n (pc := 14) F dX3_remember_14 0 rfl rfl ?_
  refine u_get (pc := 15) F dX3_remember_15 (hL 3 0 0 (by decide) rfl) ck_3 fl_3_20 rfl (by decide) rfl ?_
  refine u_iconst (v := 1) (pc := 18) F dX3_remember_18 (by decide) ?_
  refine u_iadd (pc := 19) F dX3_remember_19 ?_
  refine u_bipush (v := 16) (pc := 20) F dX3_remember_20 (by decide) ?_
  refine u_irem (pc := 22) F dX3_remember_22 (by decide) ?_
  refine u_put (pc := 23) F dX3_remember_23 (hL 3 0 0 (by decide) rfl) ck_3 fl_3_20 rfl (by decide) rfl (ty0 := .int) (by decide +kernel) rfl rfl ?_
  obtain ⟨m5, hm5, h⟩ := d_lt_some h
  refine u_mem hm5 ?_
  refine u_aload_n (pc := 26) F dX3_remember_26 0 rfl rfl ?_
  refine u_aload_n (pc := 27) F dX3_remember_27 0 rfl rfl ?_
  refine u_get (pc := 28) F dX3_remember_28 (hL 3 0 0 (by decide) rfl) ck_3 fl_3_28 rfl (by decide) rfl ?_
  refine u_iconst (v := 1) (pc := 31) F dX3_remember_31 (by decide) ?_
  refine u_iadd (pc := 32) F dX3_remember_32 ?_
  refine u_bipush (v := 16) (pc := 33) F dX3_remember_33 (by decide) ?_
  refine u_min (pc := 35) F mk_3_31 mt_s_min mt_i mt_c_min (by decide) (Nat.le_of_ble_eq_true rfl) dX3_remember_35 ?_
  obtain ⟨v6, hv6, h⟩ := d_lt_some h
  refine u_topi hv6 ?_
  refine u_put (pc := 38) F dX3_remember_38 (hL 3 0 0 (by decide) rfl) ck_3 fl_3_28 rfl (by decide) rfl (ty0 := .int) (by decide +kernel) rfl rfl ?_
  obtain ⟨m7, hm7, h⟩ := d_lt_some h
  refine u_mem hm7 ?_
  have h1 := Option.some.inj h
  subst h1
  exact hR _ _ dX3_remember_41
/- RollingCodes$Past.takeBack -/
def fX3_takeBack (σ : Mem) : Option (Mem) :=
    if (σ 3 0 0 2) = 0 then (some σ) else (d_lt (upM σ 3 0 (wr (σ 3 0) 0 1 (jrem (((σ 3 0 0 1) + (16 : Int32)) - (1 : Int32)) (16 : Int32)))) fun m2 => d_lt (upM m2 3 0 (wr (m2 3 0) 0 2 ((m2 3 0 0 2) - (1 : Int32)))) fun m3 => d_ab (m3 3 0 0 1) 16 <| d_bd (fX7_copyFrom (m3 7 0) (m3 7 (2 + (m3 3 0 0 1).toNatClampNeg))) fun q6 => d_lt (upM m3 7 0 q6) fun m7 => some m7)
set_option maxHeartbeats 4000000 in
set_option maxRecDepth 100000 in
theorem c_X3_takeBack (G : G0) (hL : In G) (σ : Mem) (σ' : Mem) (h : fX3_takeBack σ = some σ') :
    CV G yX3_takeBack cX3_takeBack 2 2 [.ref (adr G (3, 0, 0)), .ref (adr G (7, 0, 0))] σ (σ') := by
  refine CV.of (by decide +kernel) (Nat.le_of_ble_eq_true rfl) (fun Y hY F hR => ?_)
  unfold fX3_takeBack at h
  have F : Fx Y G cX3_takeBack RX3 2 := F
  refine u_lv (lv' := [(0, .ref (adr G (3, 0, 0))), (1, .ref (adr G (7, 0, 0)))]) [0, 1] rfl ?_
  refine u_aload_n (pc := 0) F dX3_takeBack_0 0 rfl rfl ?_
  refine u_get (pc := 1) F dX3_takeBack_1 (hL 3 0 0 (by decide) rfl) ck_3 fl_3_28 rfl (by decide) rfl ?_
  refine u_if_ne (pc := 4) F 8 dX3_takeBack_4 (by decide) (fun c1 => ?_) (fun c1 => ?_)
  · rw [if_neg c1] at h
    refine u_aload_n (pc := 8) F dX3_takeBack_8 0 rfl rfl ?_
    refine u_aload_n (pc := 9) F dX3_takeBack_9 0 rfl rfl ?_
    refine u_get (pc := 10) F dX3_takeBack_10 (hL 3 0 0 (by decide) rfl) ck_3 fl_3_20 rfl (by decide) rfl ?_
    refine u_bipush (v := 16) (pc := 13) F dX3_takeBack_13 (by decide) ?_
    refine u_iadd (pc := 15) F dX3_takeBack_15 ?_
    refine u_iconst (v := 1) (pc := 16) F dX3_takeBack_16 (by decide) ?_
    refine u_isub (pc := 17) F dX3_takeBack_17 ?_
    refine u_bipush (v := 16) (pc := 18) F dX3_takeBack_18 (by decide) ?_
    refine u_irem (pc := 20) F dX3_takeBack_20 (by decide) ?_
    refine u_put (pc := 21) F dX3_takeBack_21 (hL 3 0 0 (by decide) rfl) ck_3 fl_3_20 rfl (by decide) rfl (ty0 := .int) (by decide +kernel) rfl rfl ?_
    obtain ⟨m2, hm2, h⟩ := d_lt_some h
    refine u_mem hm2 ?_
    refine u_aload_n (pc := 24) F dX3_takeBack_24 0 rfl rfl ?_
    refine u_dup (pc := 25) F dX3_takeBack_25 rfl ?_
    refine u_get (pc := 26) F dX3_takeBack_26 (hL 3 0 0 (by decide) rfl) ck_3 fl_3_28 rfl (by decide) rfl ?_
    refine u_iconst (v := 1) (pc := 29) F dX3_takeBack_29 (by decide) ?_
    refine u_isub (pc := 30) F dX3_takeBack_30 ?_
    refine u_put (pc := 31) F dX3_takeBack_31 (hL 3 0 0 (by decide) rfl) ck_3 fl_3_28 rfl (by decide) rfl (ty0 := .int) (by decide +kernel) rfl rfl ?_
    obtain ⟨m3, hm3, h⟩ := d_lt_some h
    refine u_mem hm3 ?_
    refine u_aload_n (pc := 34) F dX3_takeBack_34 1 rfl rfl ?_
    refine u_aload_n (pc := 35) F dX3_takeBack_35 0 rfl rfl ?_
    refine u_getA (pc := 36) F dX3_takeBack_36 (hL 3 0 0 (by decide) rfl) ck_3 fl_3_11 rfl (by decide) (by decide) ?_
    refine u_aload_n (pc := 39) F dX3_takeBack_39 0 rfl rfl ?_
    refine u_get (pc := 40) F dX3_takeBack_40 (hL 3 0 0 (by decide) rfl) ck_3 fl_3_20 rfl (by decide) rfl ?_
    obtain ⟨b4, h⟩ := d_ab_some h
    have hk5 : 2 + (m3 3 0 0 1).toNatClampNeg < 24 := so_lt b4 (by decide)
    refine u_aldO (pc := 43) F dX3_takeBack_43 (hL 3 0 1 (by decide) rfl) rfl b4 ?_
    obtain ⟨q6, hq6, h⟩ := d_bd_some h
    refine u_callv (pc := 44) F (As := [.ref (adr G (7, 2 + (m3 3 0 0 1).toNatClampNeg, 0))]) (c_X7_copyFrom G hL 0 (by decide) (2 + (m3 3 0 0 1).toNatClampNeg) hk5 (by omega) m3 (m3 7 0) (m3 7 (2 + (m3 3 0 0 1).toNatClampNeg)) (rfl) (rfl) q6 hq6) yv_X7_copyFrom ml_3_24 (hL 7 0 0 (by decide) rfl) rfl (by decide) rfl rfl (Nat.le_of_ble_eq_true rfl) dX3_takeBack_44 ?_
    obtain ⟨m7, hm7, h⟩ := d_lt_some h
    refine u_mem hm7 ?_
    have h1 := Option.some.inj h
    subst h1
    exact hR _ _ dX3_takeBack_47
  · rw [if_pos c1] at h
    have h1 := Option.some.inj h
    subst h1
    exact hR _ _ dX3_takeBack_7
/- RollingCodes$RowSearch.canEnd -/
def fX6_canEnd_10 (rec : Mem → Int32 → Int32 → Int32 → Option (Int32 × Mem)) (σ : Mem) (x3 : Int32) : Option (Int32 × Mem) :=
    if x3 = 0 then (some ((1 : Int32), σ)) else (some ((0 : Int32), σ))
def fX6_canEnd_41 (rec : Mem → Int32 → Int32 → Int32 → Option (Int32 × Mem)) : Nat → Mem → Int32 → Int32 → Int32 → Int32 → Option (Int32 × Mem)
  | 0, _, _, _, _, _ => none
  | fu + 1, σ, x1, x2, x3, x6 =>
    if x6 < (σ 7 (20 + x1.toNatClampNeg) 0 4) then (d_ab x1 3 <| d_lt (upM σ 6 0 (wr (σ 6 0) 2 x1.toNatClampNeg x6)) fun m10 => d_ck (decide (¬ 20 + x1.toNatClampNeg = 20 + (x1 + (1 : Int32)).toNatClampNeg)) <| d_bd (fX7_copyFrom (m10 7 (20 + (x1 + (1 : Int32)).toNatClampNeg)) (m10 7 (20 + x1.toNatClampNeg))) fun q12 => d_lt (upM m10 7 (20 + (x1 + (1 : Int32)).toNatClampNeg) q12) fun m13 => d_bd (fX7_sentAgain (m13 7 (20 + (x1 + (1 : Int32)).toNatClampNeg)) (m13 4 0) x6) fun q14 => d_lt (upM m13 7 (20 + (x1 + (1 : Int32)).toNatClampNeg) q14.2) fun m15 => d_lt (x3 &&& (q14.1 ^^^ (-1 : Int32))) fun v16 => if v16 = x3 then (d_bd (fX7_waitsAs (m15 7 (20 + (x1 + (1 : Int32)).toNatClampNeg)) (m15 4 0) (m15 7 (20 + x1.toNatClampNeg))) fun q23 => if q23 = 0 then (if (0 : Int32) = 0 then (d_bd (rec m15 (x1 + (1 : Int32)) x2 v16) fun q27 => if q27.1 = 0 then (d_lt (x6 + (1 : Int32)) fun v29 => fX6_canEnd_41 rec fu q27.2 x1 x2 x3 v29) else (some ((1 : Int32), q27.2))) else (d_lt (x6 + (1 : Int32)) fun v26 => fX6_canEnd_41 rec fu m15 x1 x2 x3 v26)) else (if (1 : Int32) = 0 then (d_bd (rec m15 (x1 + (1 : Int32)) x2 v16) fun q32 => if q32.1 = 0 then (d_lt (x6 + (1 : Int32)) fun v34 => fX6_canEnd_41 rec fu q32.2 x1 x2 x3 v34) else (some ((1 : Int32), q32.2))) else (d_lt (x6 + (1 : Int32)) fun v31 => fX6_canEnd_41 rec fu m15 x1 x2 x3 v31))) else (if (0 : Int32) = 0 then (d_bd (rec m15 (x1 + (1 : Int32)) x2 v16) fun q20 => if q20.1 = 0 then (d_lt (x6 + (1 : Int32)) fun v22 => fX6_canEnd_41 rec fu q20.2 x1 x2 x3 v22) else (some ((1 : Int32), q20.2))) else (d_lt (x6 + (1 : Int32)) fun v19 => fX6_canEnd_41 rec fu m15 x1 x2 x3 v19))) else (some ((0 : Int32), σ))
def fX6_canEnd_b (rec : Mem → Int32 → Int32 → Int32 → Option (Int32 × Mem)) (σ : Mem) (x1 x2 x3 : Int32) : Option (Int32 × Mem) :=
    if x1 < x2 then (if x1 < (3 : Int32) then (d_ab x1 4 <| d_ab (x1 + (1 : Int32)) 4 <| fX6_canEnd_41 rec 1000 σ x1 x2 x3 (0 : Int32)) else (fX6_canEnd_10 rec σ x3)) else (fX6_canEnd_10 rec σ x3)
def fX6_canEnd_r : Nat → Mem → Int32 → Int32 → Int32 → Option (Int32 × Mem)
  | 0, _, _, _, _ => none
  | n + 1, σ, x1, x2, x3 => fX6_canEnd_b (fX6_canEnd_r n) σ x1 x2 x3
def fX6_canEnd (σ : Mem) (x1 x2 x3 : Int32) : Option (Int32 × Mem) := fX6_canEnd_r 6 σ x1 x2 x3
set_option maxHeartbeats 4000000 in
set_option maxRecDepth 100000 in
theorem wX6_canEnd_10 (Y : Dy) (G : G0) (hL : In G) (rec : Mem → Int32 → Int32 → Int32 → Option (Int32 × Mem)) (dn : Nat) (hdn : 5 ≤ dn) (hrec : ∀ (x1 x2 x3 : Int32) (σ : Mem) (r : Int32) (σ' : Mem), rec σ x1 x2 x3 = some (r, σ') → CI G yX6_canEnd cX6_canEnd 9 .boolean dn [.ref (adr G (6, 0, 0)), .int x1, .int x2, .int x3] σ r σ') (F : Fx Y G cX6_canEnd RX6 (dn + 1)) (hY : Y.2.2.2.2.2.2.2.2.2.2.2.1 = 9) (r : Int32) (σ' : Mem) (hR : ∀ (pc : Nat) (lv : List (Nat × Value)), narrow .boolean (.int r) = .int r → decode cX6_canEnd pc = .ok (.ireturn, 1) → U Y G σ' pc lv [.int r]) :
    ∀ (σ : Mem) (x3 : Int32), fX6_canEnd_10 rec σ x3 = some (r, σ') → U Y G σ 10 [(3, .int x3)] [] := by
  intro σ x3 h
  unfold fX6_canEnd_10 at h
  refine u_iload_n (pc := 10) F dX6_canEnd_10 0 rfl rfl ?_
  refine u_if_ne (pc := 11) F 18 dX6_canEnd_11 (by decide) (fun c2 => ?_) (fun c2 => ?_)
  · rw [if_neg c2] at h
    refine u_iconst (v := 0) (pc := 18) F dX6_canEnd_18 (by decide) ?_
    have h1 := Option.some.inj h
    obtain ⟨hj0, hr0⟩ := Prod.mk.inj h1
    subst hj0
    subst hr0
    exact hR _ _ rfl dX6_canEnd_19
  · rw [if_pos c2] at h
    refine u_iconst (v := 1) (pc := 14) F dX6_canEnd_14 (by decide) ?_
    refine u_goto (pc := 15) F 19 dX6_canEnd_15 (by decide) ?_
    have h1 := Option.some.inj h
    obtain ⟨hj0, hr0⟩ := Prod.mk.inj h1
    subst hj0
    subst hr0
    exact hR _ _ rfl dX6_canEnd_19
set_option maxHeartbeats 4000000 in
set_option maxRecDepth 100000 in
theorem wX6_canEnd_41 (Y : Dy) (G : G0) (hL : In G) (rec : Mem → Int32 → Int32 → Int32 → Option (Int32 × Mem)) (dn : Nat) (hdn : 5 ≤ dn) (hrec : ∀ (x1 x2 x3 : Int32) (σ : Mem) (r : Int32) (σ' : Mem), rec σ x1 x2 x3 = some (r, σ') → CI G yX6_canEnd cX6_canEnd 9 .boolean dn [.ref (adr G (6, 0, 0)), .int x1, .int x2, .int x3] σ r σ') (F : Fx Y G cX6_canEnd RX6 (dn + 1)) (hY : Y.2.2.2.2.2.2.2.2.2.2.2.1 = 9) (r : Int32) (σ' : Mem) (hR : ∀ (pc : Nat) (lv : List (Nat × Value)), narrow .boolean (.int r) = .int r → decode cX6_canEnd pc = .ok (.ireturn, 1) → U Y G σ' pc lv [.int r]) :
    ∀ (fu : Nat) (σ : Mem) (x1 : Int32) (x2 : Int32) (x3 : Int32) (x6 : Int32), 20 + x1.toNatClampNeg < 24 → 20 + (x1 + (1 : Int32)).toNatClampNeg < 24 → fX6_canEnd_41 rec fu σ x1 x2 x3 x6 = some (r, σ') → U Y G σ 41 [(0, .ref (adr G (6, 0, 0))), (1, .int x1), (2, .int x2), (3, .int x3), (4, .ref (adr G (7, 20 + x1.toNatClampNeg, 0))), (5, .ref (adr G (7, 20 + (x1 + (1 : Int32)).toNatClampNeg, 0))), (6, .int x6)] [] := by
  intro fu
  induction fu with
  | zero =>
    intro σ x1 x2 x3 x6 hk5 hk7 h
    rw [fX6_canEnd_41] at h
    cases h
  | succ fu ih =>
    intro σ x1 x2 x3 x6 hk5 hk7 h
    rw [fX6_canEnd_41] at h
    refine u_iload (pc := 41) F dX6_canEnd_41 6 rfl ?_
    refine u_aload (pc := 43) F dX6_canEnd_43 4 rfl ?_
    refine u_get (pc := 45) F dX6_canEnd_45 (hL 7 (20 + x1.toNatClampNeg) 0 hk5 rfl) ck_7 fl_6_36 rfl (by decide) rfl ?_
    refine u_icmp_ge (pc := 48) F 128 dX6_canEnd_48 (by decide) (fun c8 => ?_) (fun c8 => ?_)
    · rw [if_neg c8] at h
      refine u_iconst (v := 0) (pc := 128) F dX6_canEnd_128 (by decide) ?_
      have h1 := Option.some.inj h
      obtain ⟨hj0, hr0⟩ := Prod.mk.inj h1
      subst hj0
      subst hr0
      exact hR _ _ rfl dX6_canEnd_129
    · rw [if_pos c8] at h
      refine u_aload_n (pc := 51) F dX6_canEnd_51 0 rfl rfl ?_
      refine u_getA (pc := 52) F dX6_canEnd_52 (hL 6 0 0 (by decide) rfl) ck_6 fl_6_17 rfl (by decide) (by decide) ?_
      refine u_iload_n (pc := 55) F dX6_canEnd_55 1 rfl rfl ?_
      refine u_iload (pc := 56) F dX6_canEnd_56 6 rfl ?_
      obtain ⟨b9, h⟩ := d_ab_some h
      refine u_astI (pc := 58) F dX6_canEnd_58 (hL 6 0 2 (by decide) rfl) rfl b9 rfl ?_
      obtain ⟨m10, hm10, h⟩ := d_lt_some h
      refine u_mem hm10 ?_
      refine u_aload (pc := 59) F dX6_canEnd_59 5 rfl ?_
      refine u_aload (pc := 61) F dX6_canEnd_61 4 rfl ?_
      obtain ⟨ck11, h⟩ := d_ck_some h
      obtain ⟨q12, hq12, h⟩ := d_bd_some h
      refine u_callv (pc := 63) F (As := [.ref (adr G (7, 20 + x1.toNatClampNeg, 0))]) (c_X7_copyFrom G hL (20 + (x1 + (1 : Int32)).toNatClampNeg) hk7 (20 + x1.toNatClampNeg) hk5 (of_decide_eq_true ck11) m10 (m10 7 (20 + (x1 + (1 : Int32)).toNatClampNeg)) (m10 7 (20 + x1.toNatClampNeg)) (rfl) (rfl) q12 hq12) yv_X7_copyFrom ml_6_24 (hL 7 (20 + (x1 + (1 : Int32)).toNatClampNeg) 0 hk7 rfl) rfl (by omega) rfl rfl (Nat.le_of_ble_eq_true rfl) dX6_canEnd_63 ?_
      obtain ⟨m13, hm13, h⟩ := d_lt_some h
      refine u_mem hm13 ?_
      refine u_iload_n (pc := 66) F dX6_canEnd_66 3 rfl rfl ?_
      refine u_aload (pc := 67) F dX6_canEnd_67 5 rfl ?_
      refine u_iload (pc := 69) F dX6_canEnd_69 6 rfl ?_
      obtain ⟨q14, hq14, h⟩ := d_bd_some h
      refine u_calli (pc := 71) F (As := [.int x6]) (c_X7_sentAgain G hL (20 + (x1 + (1 : Int32)).toNatClampNeg) hk7 x6 m13 (m13 7 (20 + (x1 + (1 : Int32)).toNatClampNeg)) (m13 4 0) (rfl) (rfl) q14.1 q14.2 hq14) yv_X7_sentAgain ml_6_40 (hL 7 (20 + (x1 + (1 : Int32)).toNatClampNeg) 0 hk7 rfl) rfl (by omega) rfl rfl (Nat.le_of_ble_eq_true rfl) dX6_canEnd_71 ?_
      obtain ⟨m15, hm15, h⟩ := d_lt_some h
      refine u_mem hm15 ?_
      refine u_iconst (v := -1) (pc := 74) F dX6_canEnd_74 (by decide) ?_
      refine u_ixor (pc := 75) F dX6_canEnd_75 ?_
      refine u_iand (pc := 76) F dX6_canEnd_76 ?_
      obtain ⟨v16, hv16, h⟩ := d_lt_some h
      refine u_topi hv16 ?_
      refine u_istore (lv' := [(7, .int v16), (0, .ref (adr G (6, 0, 0))), (1, .int x1), (2, .int x2), (3, .int x3), (4, .ref (adr G (7, 20 + x1.toNatClampNeg, 0))), (5, .ref (adr G (7, 20 + (x1 + (1 : Int32)).toNatClampNeg, 0))), (6, .int x6)]) (pc := 77) F dX6_canEnd_77 hY (by decide) rfl ?_
      refine u_iload (pc := 79) F dX6_canEnd_79 0 rfl ?_
      refine u_iload_n (pc := 81) F dX6_canEnd_81 4 rfl rfl ?_
      refine u_icmp_ne (pc := 82) F 99 dX6_canEnd_82 (by decide) (fun c17 => ?_) (fun c17 => ?_)
      · rw [if_neg c17] at h
        refine u_iconst (v := 0) (pc := 99) F dX6_canEnd_99 (by decide) ?_
        refine u_istore (lv' := [(8, .int (0 : Int32)), (7, .int v16), (0, .ref (adr G (6, 0, 0))), (1, .int x1), (2, .int x2), (3, .int x3), (4, .ref (adr G (7, 20 + x1.toNatClampNeg, 0))), (5, .ref (adr G (7, 20 + (x1 + (1 : Int32)).toNatClampNeg, 0))), (6, .int x6)]) (pc := 100) F dX6_canEnd_100 hY (by decide) rfl ?_
        refine u_iload (pc := 102) F dX6_canEnd_102 0 rfl ?_
        refine u_if_ne (pc := 104) F 122 dX6_canEnd_104 (by decide) (fun c18 => ?_) (fun c18 => ?_)
        · rw [if_neg c18] at h
          obtain ⟨v19, hv19, h⟩ := d_lt_some h
          refine u_iinc (lv' := [(6, .int v19), (8, .int (0 : Int32)), (7, .int v16), (0, .ref (adr G (6, 0, 0))), (1, .int x1), (2, .int x2), (3, .int x3), (4, .ref (adr G (7, 20 + x1.toNatClampNeg, 0))), (5, .ref (adr G (7, 20 + (x1 + (1 : Int32)).toNatClampNeg, 0)))]) (pc := 122) F dX6_canEnd_122 8 rfl hv19.symm hY (by decide) rfl ?_
          refine u_goto (pc := 125) F 41 dX6_canEnd_125 (by decide) ?_
          refine u_lv (lv' := [(0, .ref (adr G (6, 0, 0))), (1, .int x1), (2, .int x2), (3, .int x3), (4, .ref (adr G (7, 20 + x1.toNatClampNeg, 0))), (5, .ref (adr G (7, 20 + (x1 + (1 : Int32)).toNatClampNeg, 0))), (6, .int v19)]) [3, 4, 5, 6, 7, 8, 0] rfl ?_
          exact ih m15 x1 x2 x3 v19 hk5 hk7 h
        · rw [if_pos c18] at h
          refine u_aload_n (pc := 107) F dX6_canEnd_107 2 rfl rfl ?_
          refine u_iload_n (pc := 108) F dX6_canEnd_108 3 rfl rfl ?_
          refine u_iconst (v := 1) (pc := 109) F dX6_canEnd_109 (by decide) ?_
          refine u_iadd (pc := 110) F dX6_canEnd_110 ?_
          refine u_iload_n (pc := 111) F dX6_canEnd_111 4 rfl rfl ?_
          refine u_iload (pc := 112) F dX6_canEnd_112 1 rfl ?_
          obtain ⟨q20, hq20, h⟩ := d_bd_some h
          refine u_callSi (pc := 114) F (As := [.ref (adr G (6, 0, 0)), .int (x1 + (1 : Int32)), .int x2, .int v16]) (hrec (x1 + (1 : Int32)) x2 v16 m15 q20.1 q20.2 hq20) ys_X6_canEnd ml_6_32 (by omega) rfl rfl (Nat.le_of_ble_eq_true rfl) dX6_canEnd_114 ?_
          refine u_if_eq (pc := 117) F 122 dX6_canEnd_117 (by decide) (fun c21 => ?_) (fun c21 => ?_)
          · rw [if_pos c21] at h
            obtain ⟨v22, hv22, h⟩ := d_lt_some h
            refine u_iinc (lv' := [(6, .int v22), (8, .int (0 : Int32)), (7, .int v16), (0, .ref (adr G (6, 0, 0))), (1, .int x1), (2, .int x2), (3, .int x3), (4, .ref (adr G (7, 20 + x1.toNatClampNeg, 0))), (5, .ref (adr G (7, 20 + (x1 + (1 : Int32)).toNatClampNeg, 0)))]) (pc := 122) F dX6_canEnd_122 8 rfl hv22.symm hY (by decide) rfl ?_
            refine u_goto (pc := 125) F 41 dX6_canEnd_125 (by decide) ?_
            refine u_lv (lv' := [(0, .ref (adr G (6, 0, 0))), (1, .int x1), (2, .int x2), (3, .int x3), (4, .ref (adr G (7, 20 + x1.toNatClampNeg, 0))), (5, .ref (adr G (7, 20 + (x1 + (1 : Int32)).toNatClampNeg, 0))), (6, .int v22)]) [3, 4, 5, 6, 7, 8, 0] rfl ?_
            exact ih q20.2 x1 x2 x3 v22 hk5 hk7 h
          · rw [if_neg c21] at h
            refine u_iconst (v := 1) (pc := 120) F dX6_canEnd_120 (by decide) ?_
            have h1 := Option.some.inj h
            obtain ⟨hj0, hr0⟩ := Prod.mk.inj h1
            subst hj0
            subst hr0
            exact hR _ _ rfl dX6_canEnd_121
      · rw [if_pos c17] at h
        refine u_aload (pc := 85) F dX6_canEnd_85 6 rfl ?_
        refine u_aload (pc := 87) F dX6_canEnd_87 5 rfl ?_
        obtain ⟨q23, hq23, h⟩ := d_bd_some h
        refine u_calli (pc := 89) F (As := [.ref (adr G (7, 20 + x1.toNatClampNeg, 0))]) (c_X7_waitsAs G hL (20 + (x1 + (1 : Int32)).toNatClampNeg) hk7 (20 + x1.toNatClampNeg) hk5 m15 (m15 7 (20 + (x1 + (1 : Int32)).toNatClampNeg)) (m15 4 0) (m15 7 (20 + x1.toNatClampNeg)) (rfl) (rfl) (rfl) q23 hq23) yv_X7_waitsAs ml_6_44 (hL 7 (20 + (x1 + (1 : Int32)).toNatClampNeg) 0 hk7 rfl) rfl (by omega) rfl rfl (Nat.le_of_ble_eq_true rfl) dX6_canEnd_89 ?_
        refine u_if_eq (pc := 92) F 99 dX6_canEnd_92 (by decide) (fun c24 => ?_) (fun c24 => ?_)
        · rw [if_pos c24] at h
          refine u_iconst (v := 0) (pc := 99) F dX6_canEnd_99 (by decide) ?_
          refine u_istore (lv' := [(8, .int (0 : Int32)), (7, .int v16), (0, .ref (adr G (6, 0, 0))), (1, .int x1), (2, .int x2), (3, .int x3), (4, .ref (adr G (7, 20 + x1.toNatClampNeg, 0))), (5, .ref (adr G (7, 20 + (x1 + (1 : Int32)).toNatClampNeg, 0))), (6, .int x6)]) (pc := 100) F dX6_canEnd_100 hY (by decide) rfl ?_
          refine u_iload (pc := 102) F dX6_canEnd_102 0 rfl ?_
          refine u_if_ne (pc := 104) F 122 dX6_canEnd_104 (by decide) (fun c25 => ?_) (fun c25 => ?_)
          · rw [if_neg c25] at h
            obtain ⟨v26, hv26, h⟩ := d_lt_some h
            refine u_iinc (lv' := [(6, .int v26), (8, .int (0 : Int32)), (7, .int v16), (0, .ref (adr G (6, 0, 0))), (1, .int x1), (2, .int x2), (3, .int x3), (4, .ref (adr G (7, 20 + x1.toNatClampNeg, 0))), (5, .ref (adr G (7, 20 + (x1 + (1 : Int32)).toNatClampNeg, 0)))]) (pc := 122) F dX6_canEnd_122 8 rfl hv26.symm hY (by decide) rfl ?_
            refine u_goto (pc := 125) F 41 dX6_canEnd_125 (by decide) ?_
            refine u_lv (lv' := [(0, .ref (adr G (6, 0, 0))), (1, .int x1), (2, .int x2), (3, .int x3), (4, .ref (adr G (7, 20 + x1.toNatClampNeg, 0))), (5, .ref (adr G (7, 20 + (x1 + (1 : Int32)).toNatClampNeg, 0))), (6, .int v26)]) [3, 4, 5, 6, 7, 8, 0] rfl ?_
            exact ih m15 x1 x2 x3 v26 hk5 hk7 h
          · rw [if_pos c25] at h
            refine u_aload_n (pc := 107) F dX6_canEnd_107 2 rfl rfl ?_
            refine u_iload_n (pc := 108) F dX6_canEnd_108 3 rfl rfl ?_
            refine u_iconst (v := 1) (pc := 109) F dX6_canEnd_109 (by decide) ?_
            refine u_iadd (pc := 110) F dX6_canEnd_110 ?_
            refine u_iload_n (pc := 111) F dX6_canEnd_111 4 rfl rfl ?_
            refine u_iload (pc := 112) F dX6_canEnd_112 1 rfl ?_
            obtain ⟨q27, hq27, h⟩ := d_bd_some h
            refine u_callSi (pc := 114) F (As := [.ref (adr G (6, 0, 0)), .int (x1 + (1 : Int32)), .int x2, .int v16]) (hrec (x1 + (1 : Int32)) x2 v16 m15 q27.1 q27.2 hq27) ys_X6_canEnd ml_6_32 (by omega) rfl rfl (Nat.le_of_ble_eq_true rfl) dX6_canEnd_114 ?_
            refine u_if_eq (pc := 117) F 122 dX6_canEnd_117 (by decide) (fun c28 => ?_) (fun c28 => ?_)
            · rw [if_pos c28] at h
              obtain ⟨v29, hv29, h⟩ := d_lt_some h
              refine u_iinc (lv' := [(6, .int v29), (8, .int (0 : Int32)), (7, .int v16), (0, .ref (adr G (6, 0, 0))), (1, .int x1), (2, .int x2), (3, .int x3), (4, .ref (adr G (7, 20 + x1.toNatClampNeg, 0))), (5, .ref (adr G (7, 20 + (x1 + (1 : Int32)).toNatClampNeg, 0)))]) (pc := 122) F dX6_canEnd_122 8 rfl hv29.symm hY (by decide) rfl ?_
              refine u_goto (pc := 125) F 41 dX6_canEnd_125 (by decide) ?_
              refine u_lv (lv' := [(0, .ref (adr G (6, 0, 0))), (1, .int x1), (2, .int x2), (3, .int x3), (4, .ref (adr G (7, 20 + x1.toNatClampNeg, 0))), (5, .ref (adr G (7, 20 + (x1 + (1 : Int32)).toNatClampNeg, 0))), (6, .int v29)]) [3, 4, 5, 6, 7, 8, 0] rfl ?_
              exact ih q27.2 x1 x2 x3 v29 hk5 hk7 h
            · rw [if_neg c28] at h
              refine u_iconst (v := 1) (pc := 120) F dX6_canEnd_120 (by decide) ?_
              have h1 := Option.some.inj h
              obtain ⟨hj0, hr0⟩ := Prod.mk.inj h1
              subst hj0
              subst hr0
              exact hR _ _ rfl dX6_canEnd_121
        · rw [if_neg c24] at h
          refine u_iconst (v := 1) (pc := 95) F dX6_canEnd_95 (by decide) ?_
          refine u_goto (pc := 96) F 100 dX6_canEnd_96 (by decide) ?_
          refine u_istore (lv' := [(8, .int (1 : Int32)), (7, .int v16), (0, .ref (adr G (6, 0, 0))), (1, .int x1), (2, .int x2), (3, .int x3), (4, .ref (adr G (7, 20 + x1.toNatClampNeg, 0))), (5, .ref (adr G (7, 20 + (x1 + (1 : Int32)).toNatClampNeg, 0))), (6, .int x6)]) (pc := 100) F dX6_canEnd_100 hY (by decide) rfl ?_
          refine u_iload (pc := 102) F dX6_canEnd_102 0 rfl ?_
          refine u_if_ne (pc := 104) F 122 dX6_canEnd_104 (by decide) (fun c30 => ?_) (fun c30 => ?_)
          · rw [if_neg c30] at h
            obtain ⟨v31, hv31, h⟩ := d_lt_some h
            refine u_iinc (lv' := [(6, .int v31), (8, .int (1 : Int32)), (7, .int v16), (0, .ref (adr G (6, 0, 0))), (1, .int x1), (2, .int x2), (3, .int x3), (4, .ref (adr G (7, 20 + x1.toNatClampNeg, 0))), (5, .ref (adr G (7, 20 + (x1 + (1 : Int32)).toNatClampNeg, 0)))]) (pc := 122) F dX6_canEnd_122 8 rfl hv31.symm hY (by decide) rfl ?_
            refine u_goto (pc := 125) F 41 dX6_canEnd_125 (by decide) ?_
            refine u_lv (lv' := [(0, .ref (adr G (6, 0, 0))), (1, .int x1), (2, .int x2), (3, .int x3), (4, .ref (adr G (7, 20 + x1.toNatClampNeg, 0))), (5, .ref (adr G (7, 20 + (x1 + (1 : Int32)).toNatClampNeg, 0))), (6, .int v31)]) [3, 4, 5, 6, 7, 8, 0] rfl ?_
            exact ih m15 x1 x2 x3 v31 hk5 hk7 h
          · rw [if_pos c30] at h
            refine u_aload_n (pc := 107) F dX6_canEnd_107 2 rfl rfl ?_
            refine u_iload_n (pc := 108) F dX6_canEnd_108 3 rfl rfl ?_
            refine u_iconst (v := 1) (pc := 109) F dX6_canEnd_109 (by decide) ?_
            refine u_iadd (pc := 110) F dX6_canEnd_110 ?_
            refine u_iload_n (pc := 111) F dX6_canEnd_111 4 rfl rfl ?_
            refine u_iload (pc := 112) F dX6_canEnd_112 1 rfl ?_
            obtain ⟨q32, hq32, h⟩ := d_bd_some h
            refine u_callSi (pc := 114) F (As := [.ref (adr G (6, 0, 0)), .int (x1 + (1 : Int32)), .int x2, .int v16]) (hrec (x1 + (1 : Int32)) x2 v16 m15 q32.1 q32.2 hq32) ys_X6_canEnd ml_6_32 (by omega) rfl rfl (Nat.le_of_ble_eq_true rfl) dX6_canEnd_114 ?_
            refine u_if_eq (pc := 117) F 122 dX6_canEnd_117 (by decide) (fun c33 => ?_) (fun c33 => ?_)
            · rw [if_pos c33] at h
              obtain ⟨v34, hv34, h⟩ := d_lt_some h
              refine u_iinc (lv' := [(6, .int v34), (8, .int (1 : Int32)), (7, .int v16), (0, .ref (adr G (6, 0, 0))), (1, .int x1), (2, .int x2), (3, .int x3), (4, .ref (adr G (7, 20 + x1.toNatClampNeg, 0))), (5, .ref (adr G (7, 20 + (x1 + (1 : Int32)).toNatClampNeg, 0)))]) (pc := 122) F dX6_canEnd_122 8 rfl hv34.symm hY (by decide) rfl ?_
              refine u_goto (pc := 125) F 41 dX6_canEnd_125 (by decide) ?_
              refine u_lv (lv' := [(0, .ref (adr G (6, 0, 0))), (1, .int x1), (2, .int x2), (3, .int x3), (4, .ref (adr G (7, 20 + x1.toNatClampNeg, 0))), (5, .ref (adr G (7, 20 + (x1 + (1 : Int32)).toNatClampNeg, 0))), (6, .int v34)]) [3, 4, 5, 6, 7, 8, 0] rfl ?_
              exact ih q32.2 x1 x2 x3 v34 hk5 hk7 h
            · rw [if_neg c33] at h
              refine u_iconst (v := 1) (pc := 120) F dX6_canEnd_120 (by decide) ?_
              have h1 := Option.some.inj h
              obtain ⟨hj0, hr0⟩ := Prod.mk.inj h1
              subst hj0
              subst hr0
              exact hR _ _ rfl dX6_canEnd_121
set_option maxHeartbeats 4000000 in
set_option maxRecDepth 100000 in
theorem c_X6_canEnd_b (G : G0) (hL : In G) (rec : Mem → Int32 → Int32 → Int32 → Option (Int32 × Mem)) (dn : Nat) (hdn : 5 ≤ dn) (hrec : ∀ (x1 x2 x3 : Int32) (σ : Mem) (r : Int32) (σ' : Mem), rec σ x1 x2 x3 = some (r, σ') → CI G yX6_canEnd cX6_canEnd 9 .boolean dn [.ref (adr G (6, 0, 0)), .int x1, .int x2, .int x3] σ r σ') (x1 x2 x3 : Int32) (σ : Mem) (r : Int32) (σ' : Mem) (h : fX6_canEnd_b rec σ x1 x2 x3 = some (r, σ')) :
    CI G yX6_canEnd cX6_canEnd 9 .boolean (dn + 1) [.ref (adr G (6, 0, 0)), .int x1, .int x2, .int x3] σ r σ' := by
  refine CI.of (by decide +kernel) (Nat.le_of_ble_eq_true rfl) (fun Y hY F hR => ?_)
  unfold fX6_canEnd_b at h
  have F : Fx Y G cX6_canEnd RX6 (dn + 1) := F
  refine u_lv (lv' := [(0, .ref (adr G (6, 0, 0))), (1, .int x1), (2, .int x2), (3, .int x3)]) [0, 1, 2, 3] rfl ?_
  refine u_iload_n (pc := 0) F dX6_canEnd_0 1 rfl rfl ?_
  refine u_iload_n (pc := 1) F dX6_canEnd_1 2 rfl rfl ?_
  refine u_icmp_ge (pc := 2) F 10 dX6_canEnd_2 (by decide) (fun c1 => ?_) (fun c1 => ?_)
  · rw [if_neg c1] at h
    refine u_lv (lv' := [(3, .int x3)]) [3] rfl ?_
    exact wX6_canEnd_10 Y G hL rec dn hdn hrec F hY r σ' hR σ x3 h
  · rw [if_pos c1] at h
    refine u_iload_n (pc := 5) F dX6_canEnd_5 1 rfl rfl ?_
    refine u_iconst (v := 3) (pc := 6) F dX6_canEnd_6 (by decide) ?_
    refine u_icmp_lt (pc := 7) F 20 dX6_canEnd_7 (by decide) (fun c3 => ?_) (fun c3 => ?_)
    · rw [if_pos c3] at h
      refine u_aload_n (pc := 20) F dX6_canEnd_20 0 rfl rfl ?_
      refine u_getA (pc := 21) F dX6_canEnd_21 (hL 6 0 0 (by decide) rfl) ck_6 fl_6_11 rfl (by decide) (by decide) ?_
      refine u_iload_n (pc := 24) F dX6_canEnd_24 1 rfl rfl ?_
      obtain ⟨b4, h⟩ := d_ab_some h
      have hk5 : 20 + x1.toNatClampNeg < 24 := so_lt b4 (by decide)
      refine u_aldO (pc := 25) F dX6_canEnd_25 (hL 6 0 1 (by decide) rfl) rfl b4 ?_
      refine u_astore (lv' := [(4, .ref (adr G (7, 20 + x1.toNatClampNeg, 0))), (0, .ref (adr G (6, 0, 0))), (1, .int x1), (2, .int x2), (3, .int x3)]) (pc := 26) F dX6_canEnd_26 hY (by decide) rfl ?_
      refine u_aload_n (pc := 28) F dX6_canEnd_28 1 rfl rfl ?_
      refine u_getA (pc := 29) F dX6_canEnd_29 (hL 6 0 0 (by decide) rfl) ck_6 fl_6_11 rfl (by decide) (by decide) ?_
      refine u_iload_n (pc := 32) F dX6_canEnd_32 2 rfl rfl ?_
      refine u_iconst (v := 1) (pc := 33) F dX6_canEnd_33 (by decide) ?_
      refine u_iadd (pc := 34) F dX6_canEnd_34 ?_
      obtain ⟨b6, h⟩ := d_ab_some h
      have hk7 : 20 + (x1 + (1 : Int32)).toNatClampNeg < 24 := so_lt b6 (by decide)
      refine u_aldO (pc := 35) F dX6_canEnd_35 (hL 6 0 1 (by decide) rfl) rfl b6 ?_
      refine u_astore (lv' := [(5, .ref (adr G (7, 20 + (x1 + (1 : Int32)).toNatClampNeg, 0))), (4, .ref (adr G (7, 20 + x1.toNatClampNeg, 0))), (0, .ref (adr G (6, 0, 0))), (1, .int x1), (2, .int x2), (3, .int x3)]) (pc := 36) F dX6_canEnd_36 hY (by decide) rfl ?_
      refine u_iconst (v := 0) (pc := 38) F dX6_canEnd_38 (by decide) ?_
      refine u_istore (lv' := [(6, .int (0 : Int32)), (5, .ref (adr G (7, 20 + (x1 + (1 : Int32)).toNatClampNeg, 0))), (4, .ref (adr G (7, 20 + x1.toNatClampNeg, 0))), (0, .ref (adr G (6, 0, 0))), (1, .int x1), (2, .int x2), (3, .int x3)]) (pc := 39) F dX6_canEnd_39 hY (by decide) rfl ?_
      refine u_lv (lv' := [(0, .ref (adr G (6, 0, 0))), (1, .int x1), (2, .int x2), (3, .int x3), (4, .ref (adr G (7, 20 + x1.toNatClampNeg, 0))), (5, .ref (adr G (7, 20 + (x1 + (1 : Int32)).toNatClampNeg, 0))), (6, .int (0 : Int32))]) [3, 4, 5, 6, 2, 1, 0] rfl ?_
      exact wX6_canEnd_41 Y G hL rec dn hdn hrec F hY r σ' hR 1000 σ x1 x2 x3 (0 : Int32) hk5 hk7 h
    · rw [if_neg c3] at h
      refine u_lv (lv' := [(3, .int x3)]) [3] rfl ?_
      exact wX6_canEnd_10 Y G hL rec dn hdn hrec F hY r σ' hR σ x3 h
theorem c_X6_canEnd_r (G : G0) (hL : In G) : ∀ (n : Nat) (x1 x2 x3 : Int32) (σ : Mem) (r : Int32) (σ' : Mem), fX6_canEnd_r n σ x1 x2 x3 = some (r, σ') → CI G yX6_canEnd cX6_canEnd 9 .boolean (5 + n) [.ref (adr G (6, 0, 0)), .int x1, .int x2, .int x3] σ r σ' := by
  intro n
  induction n with
  | zero =>
    intro x1 x2 x3 σ r σ' h
    cases h
  | succ n ih =>
    intro x1 x2 x3 σ r σ' h
    exact c_X6_canEnd_b G hL (fX6_canEnd_r n) (5 + n) (Nat.le_add_right _ _) ih x1 x2 x3 σ r σ' h
theorem c_X6_canEnd (G : G0) (hL : In G) (x1 x2 x3 : Int32) (σ : Mem) (r : Int32) (σ' : Mem) (h : fX6_canEnd σ x1 x2 x3 = some (r, σ')) : CI G yX6_canEnd cX6_canEnd 9 .boolean 11 [.ref (adr G (6, 0, 0)), .int x1, .int x2, .int x3] σ r σ' := c_X6_canEnd_r G hL 6 x1 x2 x3 σ r σ' h
/- RollingCodes$RowSearch.find -/
def fX6_find_17  : Nat → Mem → Int32 → Int32 → Option (Int32 × Mem)
  | 0, _, _, _ => none
  | fu + 1, σ, x2, x3 =>
    if x3 ≤ (3 : Int32) then (d_bd (fX6_canEnd σ (0 : Int32) x3 x2) fun q7 => if q7.1 = 0 then (d_lt (x3 + (1 : Int32)) fun v9 => fX6_find_17 fu q7.2 x2 v9) else (some (x3, q7.2))) else (some ((-1 : Int32), σ))
def fX6_find (σ : Mem) : Option (Int32 × Mem) :=
    d_ab (0 : Int32) 4 <| d_bd (fX7_copyFrom (σ 7 (20 + (0 : Int32).toNatClampNeg)) (σ 7 0)) fun q3 => d_lt (upM σ 7 (20 + (0 : Int32).toNatClampNeg) q3) fun m4 => d_bd (fX7_gatesInReach (m4 7 0) (m4 4 0)) fun q5 => fX6_find_17 1000 m4 q5 (0 : Int32)
set_option maxHeartbeats 4000000 in
set_option maxRecDepth 100000 in
theorem wX6_find_17 (Y : Dy) (G : G0) (hL : In G) (F : Fx Y G cX6_find RX6 12) (hY : Y.2.2.2.2.2.2.2.2.2.2.2.1 = 4) (r : Int32) (σ' : Mem) (hR : ∀ (pc : Nat) (lv : List (Nat × Value)), narrow .int (.int r) = .int r → decode cX6_find pc = .ok (.ireturn, 1) → U Y G σ' pc lv [.int r]) :
    ∀ (fu : Nat) (σ : Mem) (x2 : Int32) (x3 : Int32), fX6_find_17 fu σ x2 x3 = some (r, σ') → U Y G σ 17 [(0, .ref (adr G (6, 0, 0))), (2, .int x2), (3, .int x3)] [] := by
  intro fu
  induction fu with
  | zero =>
    intro σ x2 x3 h
    rw [fX6_find_17] at h
    cases h
  | succ fu ih =>
    intro σ x2 x3 h
    rw [fX6_find_17] at h
    refine u_iload_n (pc := 17) F dX6_find_17 2 rfl rfl ?_
    refine u_iconst (v := 3) (pc := 18) F dX6_find_18 (by decide) ?_
    refine u_icmp_gt (pc := 19) F 40 dX6_find_19 (by decide) (fun c6 => ?_) (fun c6 => ?_)
    · rw [if_neg c6] at h
      refine u_iconst (v := -1) (pc := 40) F dX6_find_40 (by decide) ?_
      have h1 := Option.some.inj h
      obtain ⟨hj0, hr0⟩ := Prod.mk.inj h1
      subst hj0
      subst hr0
      exact hR _ _ rfl dX6_find_41
    · rw [if_pos c6] at h
      refine u_aload_n (pc := 22) F dX6_find_22 0 rfl rfl ?_
      refine u_iconst (v := 0) (pc := 23) F dX6_find_23 (by decide) ?_
      refine u_iload_n (pc := 24) F dX6_find_24 2 rfl rfl ?_
      refine u_iload_n (pc := 25) F dX6_find_25 1 rfl rfl ?_
      obtain ⟨q7, hq7, h⟩ := d_bd_some h
      refine u_callSi (pc := 26) F (As := [.ref (adr G (6, 0, 0)), .int (0 : Int32), .int x3, .int x2]) (c_X6_canEnd G hL (0 : Int32) x3 x2 σ q7.1 q7.2 hq7) ys_X6_canEnd ml_6_32 (by decide) rfl rfl (Nat.le_of_ble_eq_true rfl) dX6_find_26 ?_
      refine u_if_eq (pc := 29) F 34 dX6_find_29 (by decide) (fun c8 => ?_) (fun c8 => ?_)
      · rw [if_pos c8] at h
        obtain ⟨v9, hv9, h⟩ := d_lt_some h
        refine u_iinc (lv' := [(3, .int v9), (0, .ref (adr G (6, 0, 0))), (2, .int x2)]) (pc := 34) F dX6_find_34 2 rfl hv9.symm hY (by decide) rfl ?_
        refine u_goto (pc := 37) F 17 dX6_find_37 (by decide) ?_
        refine u_lv (lv' := [(0, .ref (adr G (6, 0, 0))), (2, .int x2), (3, .int v9)]) [1, 2, 0] rfl ?_
        exact ih q7.2 x2 v9 h
      · rw [if_neg c8] at h
        refine u_iload_n (pc := 32) F dX6_find_32 2 rfl rfl ?_
        have h1 := Option.some.inj h
        obtain ⟨hj0, hr0⟩ := Prod.mk.inj h1
        subst hj0
        subst hr0
        exact hR _ _ rfl dX6_find_33
set_option maxHeartbeats 4000000 in
set_option maxRecDepth 100000 in
theorem c_X6_find (G : G0) (hL : In G) (σ : Mem) (r : Int32) (σ' : Mem) (h : fX6_find σ = some (r, σ')) :
    CI G yX6_find cX6_find 4 .int 12 [.ref (adr G (6, 0, 0)), .ref (adr G (7, 0, 0))] σ r (σ') := by
  refine CI.of (by decide +kernel) (Nat.le_of_ble_eq_true rfl) (fun Y hY F hR => ?_)
  unfold fX6_find at h
  have F : Fx Y G cX6_find RX6 12 := F
  refine u_lv (lv' := [(0, .ref (adr G (6, 0, 0))), (1, .ref (adr G (7, 0, 0)))]) [0, 1] rfl ?_
  refine u_aload_n (pc := 0) F dX6_find_0 0 rfl rfl ?_
  refine u_getA (pc := 1) F dX6_find_1 (hL 6 0 0 (by decide) rfl) ck_6 fl_6_11 rfl (by decide) (by decide) ?_
  refine u_iconst (v := 0) (pc := 4) F dX6_find_4 (by decide) ?_
  obtain ⟨b1, h⟩ := d_ab_some h
  have hk2 : 20 + (0 : Int32).toNatClampNeg < 24 := so_lt b1 (by decide)
  refine u_aldO (pc := 5) F dX6_find_5 (hL 6 0 1 (by decide) rfl) rfl b1 ?_
  refine u_aload_n (pc := 6) F dX6_find_6 1 rfl rfl ?_
  obtain ⟨q3, hq3, h⟩ := d_bd_some h
  refine u_callv (pc := 7) F (As := [.ref (adr G (7, 0, 0))]) (c_X7_copyFrom G hL (20 + (0 : Int32).toNatClampNeg) hk2 0 (by decide) (by omega) σ (σ 7 (20 + (0 : Int32).toNatClampNeg)) (σ 7 0) (rfl) (rfl) q3 hq3) yv_X7_copyFrom ml_6_24 (hL 7 (20 + (0 : Int32).toNatClampNeg) 0 hk2 rfl) rfl (by decide) rfl rfl (Nat.le_of_ble_eq_true rfl) dX6_find_7 ?_
  obtain ⟨m4, hm4, h⟩ := d_lt_some h
  refine u_mem hm4 ?_
  refine u_aload_n (pc := 10) F dX6_find_10 1 rfl rfl ?_
  obtain ⟨q5, hq5, h⟩ := d_bd_some h
  refine u_calli (pc := 11) F (As := []) (c_X7_gatesInReach G hL 0 (by decide) m4 (m4 7 0) (m4 4 0) (rfl) (rfl) q5 hq5) yv_X7_gatesInReach ml_6_28 (hL 7 0 0 (by decide) rfl) rfl (by decide) rfl rfl (Nat.le_of_ble_eq_true rfl) dX6_find_11 ?_
  refine u_istore_n (lv' := [(2, .int q5), (0, .ref (adr G (6, 0, 0))), (1, .ref (adr G (7, 0, 0)))]) (pc := 14) F dX6_find_14 rfl hY (by decide) rfl ?_
  refine u_iconst (v := 0) (pc := 15) F dX6_find_15 (by decide) ?_
  refine u_istore_n (lv' := [(3, .int (0 : Int32)), (2, .int q5), (0, .ref (adr G (6, 0, 0))), (1, .ref (adr G (7, 0, 0)))]) (pc := 16) F dX6_find_16 rfl hY (by decide) rfl ?_
  refine u_lv (lv' := [(0, .ref (adr G (6, 0, 0))), (2, .int q5), (3, .int (0 : Int32))]) [2, 1, 0] rfl ?_
  exact wX6_find_17 Y G hL F hY r σ' hR 1000 m4 q5 (0 : Int32) h
/- RollingCodes$Images.isImage -/
def fX2_isImage (σ : Mem) (x1 : Int32) : Option (Int32) :=
    if x1 < 0 then (some (0 : Int32)) else (if x1 < (2 : Int32) then (some (1 : Int32)) else (some (0 : Int32)))
set_option maxHeartbeats 4000000 in
set_option maxRecDepth 100000 in
theorem c_X2_isImage (G : G0) (hL : In G) (x1 : Int32) (σ : Mem) (r : Int32) (h : fX2_isImage σ x1 = some r) :
    CI G yX2_isImage cX2_isImage 2 .boolean 1 [.ref (adr G (2, 0, 0)), .int x1] σ r σ := by
  refine CI.of (by decide +kernel) (Nat.le_of_ble_eq_true rfl) (fun Y hY F hR => ?_)
  unfold fX2_isImage at h
  have F : Fx Y G cX2_isImage RX2 1 := F
  refine u_lv (lv' := [(0, .ref (adr G (2, 0, 0))), (1, .int x1)]) [0, 1] rfl ?_
  refine u_iload_n (pc := 0) F dX2_isImage_0 1 rfl rfl ?_
  refine u_if_lt (pc := 1) F 13 dX2_isImage_1 (by decide) (fun c1 => ?_) (fun c1 => ?_)
  · rw [if_pos c1] at h
    refine u_iconst (v := 0) (pc := 13) F dX2_isImage_13 (by decide) ?_
    have h1 := Option.some.inj h
    subst h1
    exact hR _ _ rfl dX2_isImage_14
  · rw [if_neg c1] at h
    refine u_iload_n (pc := 4) F dX2_isImage_4 1 rfl rfl ?_
    refine u_iconst (v := 2) (pc := 5) F dX2_isImage_5 (by decide) ?_
    refine u_icmp_ge (pc := 6) F 13 dX2_isImage_6 (by decide) (fun c2 => ?_) (fun c2 => ?_)
    · rw [if_neg c2] at h
      refine u_iconst (v := 0) (pc := 13) F dX2_isImage_13 (by decide) ?_
      have h1 := Option.some.inj h
      subst h1
      exact hR _ _ rfl dX2_isImage_14
    · rw [if_pos c2] at h
      refine u_iconst (v := 1) (pc := 9) F dX2_isImage_9 (by decide) ?_
      refine u_goto (pc := 10) F 14 dX2_isImage_10 (by decide) ?_
      have h1 := Option.some.inj h
      subst h1
      exact hR _ _ rfl dX2_isImage_14
/- RollingCodes$Images.take -/
def fX2_take (σ : Mem) (x1 : Int32) : Option (Mem) :=
    d_ab x1 2 <| d_bd (fX7_copyFrom (σ 7 (18 + x1.toNatClampNeg)) (σ 7 0)) fun q3 => d_lt (upM σ 7 (18 + x1.toNatClampNeg) q3) fun m4 => d_ab x1 2 <| d_lt (upM m4 2 0 (wr (m4 2 0) 2 x1.toNatClampNeg (m4 1 0 0 0))) fun m6 => d_ab x1 2 <| d_lt (upM m6 2 0 (wr (m6 2 0) 3 x1.toNatClampNeg (1 : Int32))) fun m8 => some m8
set_option maxHeartbeats 4000000 in
set_option maxRecDepth 100000 in
theorem c_X2_take (G : G0) (hL : In G) (x1 : Int32) (σ : Mem) (σ' : Mem) (h : fX2_take σ x1 = some σ') :
    CV G yX2_take cX2_take 4 2 [.ref (adr G (2, 0, 0)), .int x1, .ref (adr G (7, 0, 0)), .ref (adr G (1, 0, 0))] σ (σ') := by
  refine CV.of (by decide +kernel) (Nat.le_of_ble_eq_true rfl) (fun Y hY F hR => ?_)
  unfold fX2_take at h
  have F : Fx Y G cX2_take RX2 2 := F
  refine u_lv (lv' := [(0, .ref (adr G (2, 0, 0))), (1, .int x1), (2, .ref (adr G (7, 0, 0))), (3, .ref (adr G (1, 0, 0)))]) [0, 1, 2, 3] rfl ?_
  refine u_aload_n (pc := 0) F dX2_take_0 0 rfl rfl ?_
  refine u_getA (pc := 1) F dX2_take_1 (hL 2 0 0 (by decide) rfl) ck_2 fl_2_11 rfl (by decide) (by decide) ?_
  refine u_iload_n (pc := 4) F dX2_take_4 1 rfl rfl ?_
  obtain ⟨b1, h⟩ := d_ab_some h
  have hk2 : 18 + x1.toNatClampNeg < 24 := so_lt b1 (by decide)
  refine u_aldO (pc := 5) F dX2_take_5 (hL 2 0 1 (by decide) rfl) rfl b1 ?_
  refine u_aload_n (pc := 6) F dX2_take_6 2 rfl rfl ?_
  obtain ⟨q3, hq3, h⟩ := d_bd_some h
  refine u_callv (pc := 7) F (As := [.ref (adr G (7, 0, 0))]) (c_X7_copyFrom G hL (18 + x1.toNatClampNeg) hk2 0 (by decide) (by omega) σ (σ 7 (18 + x1.toNatClampNeg)) (σ 7 0) (rfl) (rfl) q3 hq3) yv_X7_copyFrom ml_2_28 (hL 7 (18 + x1.toNatClampNeg) 0 hk2 rfl) rfl (by decide) rfl rfl (Nat.le_of_ble_eq_true rfl) dX2_take_7 ?_
  obtain ⟨m4, hm4, h⟩ := d_lt_some h
  refine u_mem hm4 ?_
  refine u_aload_n (pc := 10) F dX2_take_10 0 rfl rfl ?_
  refine u_getA (pc := 11) F dX2_take_11 (hL 2 0 0 (by decide) rfl) ck_2 fl_2_17 rfl (by decide) (by decide) ?_
  refine u_iload_n (pc := 14) F dX2_take_14 1 rfl rfl ?_
  refine u_aload_n (pc := 15) F dX2_take_15 3 rfl rfl ?_
  refine u_get (pc := 16) F dX2_take_16 (hL 1 0 0 (by decide) rfl) ck_1 fl_2_32 rfl (by decide) rfl ?_
  obtain ⟨b5, h⟩ := d_ab_some h
  refine u_astI (pc := 19) F dX2_take_19 (hL 2 0 2 (by decide) rfl) rfl b5 rfl ?_
  obtain ⟨m6, hm6, h⟩ := d_lt_some h
  refine u_mem hm6 ?_
  refine u_aload_n (pc := 20) F dX2_take_20 0 rfl rfl ?_
  refine u_getA (pc := 21) F dX2_take_21 (hL 2 0 0 (by decide) rfl) ck_2 fl_2_21 rfl (by decide) (by decide) ?_
  refine u_iload_n (pc := 24) F dX2_take_24 1 rfl rfl ?_
  refine u_iconst (v := 1) (pc := 25) F dX2_take_25 (by decide) ?_
  obtain ⟨b7, h⟩ := d_ab_some h
  refine u_astZ (pc := 26) F dX2_take_26 (hL 2 0 3 (by decide) rfl) rfl b7 rfl (v2 := (1 : Int32)) ?_
  obtain ⟨m8, hm8, h⟩ := d_lt_some h
  refine u_mem hm8 ?_
  have h1 := Option.some.inj h
  subst h1
  exact hR _ _ dX2_take_27
/- RollingCodes$Images.isTaken -/
def fX2_isTaken (σ : Mem) (x1 : Int32) : Option (Int32) :=
    d_ab x1 2 <| d_zb (σ 2 0 3 x1.toNatClampNeg) <| some (σ 2 0 3 x1.toNatClampNeg)
set_option maxHeartbeats 4000000 in
set_option maxRecDepth 100000 in
theorem c_X2_isTaken (G : G0) (hL : In G) (x1 : Int32) (σ : Mem) (r : Int32) (h : fX2_isTaken σ x1 = some r) :
    CI G yX2_isTaken cX2_isTaken 2 .boolean 1 [.ref (adr G (2, 0, 0)), .int x1] σ r σ := by
  refine CI.of (by decide +kernel) (Nat.le_of_ble_eq_true rfl) (fun Y hY F hR => ?_)
  unfold fX2_isTaken at h
  have F : Fx Y G cX2_isTaken RX2 1 := F
  refine u_lv (lv' := [(0, .ref (adr G (2, 0, 0))), (1, .int x1)]) [0, 1] rfl ?_
  refine u_aload_n (pc := 0) F dX2_isTaken_0 0 rfl rfl ?_
  refine u_getA (pc := 1) F dX2_isTaken_1 (hL 2 0 0 (by decide) rfl) ck_2 fl_2_21 rfl (by decide) (by decide) ?_
  refine u_iload_n (pc := 4) F dX2_isTaken_4 1 rfl rfl ?_
  obtain ⟨b1, h⟩ := d_ab_some h
  refine u_aldZ (pc := 5) F dX2_isTaken_5 (hL 2 0 3 (by decide) rfl) rfl b1 rfl ?_
  obtain ⟨c2, h⟩ := d_zb_some h
  have h1 := Option.some.inj h
  subst h1
  exact hR _ _ (nar_zb c2) dX2_isTaken_6
/- RollingCodes$Images.bringBack -/
def fX2_bringBack (σ : Mem) (x1 : Int32) : Option (Mem) :=
    d_ab x1 2 <| d_bd (fX7_copyFrom (σ 7 0) (σ 7 (18 + x1.toNatClampNeg))) fun q3 => d_lt (upM σ 7 0 q3) fun m4 => d_ab x1 2 <| d_lt (upM m4 1 0 (wr (m4 1 0) 0 0 (m4 2 0 2 x1.toNatClampNeg))) fun m6 => some m6
set_option maxHeartbeats 4000000 in
set_option maxRecDepth 100000 in
theorem c_X2_bringBack (G : G0) (hL : In G) (x1 : Int32) (σ : Mem) (σ' : Mem) (h : fX2_bringBack σ x1 = some σ') :
    CV G yX2_bringBack cX2_bringBack 4 2 [.ref (adr G (2, 0, 0)), .int x1, .ref (adr G (7, 0, 0)), .ref (adr G (1, 0, 0))] σ (σ') := by
  refine CV.of (by decide +kernel) (Nat.le_of_ble_eq_true rfl) (fun Y hY F hR => ?_)
  unfold fX2_bringBack at h
  have F : Fx Y G cX2_bringBack RX2 2 := F
  refine u_lv (lv' := [(0, .ref (adr G (2, 0, 0))), (1, .int x1), (2, .ref (adr G (7, 0, 0))), (3, .ref (adr G (1, 0, 0)))]) [0, 1, 2, 3] rfl ?_
  refine u_aload_n (pc := 0) F dX2_bringBack_0 2 rfl rfl ?_
  refine u_aload_n (pc := 1) F dX2_bringBack_1 0 rfl rfl ?_
  refine u_getA (pc := 2) F dX2_bringBack_2 (hL 2 0 0 (by decide) rfl) ck_2 fl_2_11 rfl (by decide) (by decide) ?_
  refine u_iload_n (pc := 5) F dX2_bringBack_5 1 rfl rfl ?_
  obtain ⟨b1, h⟩ := d_ab_some h
  have hk2 : 18 + x1.toNatClampNeg < 24 := so_lt b1 (by decide)
  refine u_aldO (pc := 6) F dX2_bringBack_6 (hL 2 0 1 (by decide) rfl) rfl b1 ?_
  obtain ⟨q3, hq3, h⟩ := d_bd_some h
  refine u_callv (pc := 7) F (As := [.ref (adr G (7, 18 + x1.toNatClampNeg, 0))]) (c_X7_copyFrom G hL 0 (by decide) (18 + x1.toNatClampNeg) hk2 (by omega) σ (σ 7 0) (σ 7 (18 + x1.toNatClampNeg)) (rfl) (rfl) q3 hq3) yv_X7_copyFrom ml_2_28 (hL 7 0 0 (by decide) rfl) rfl (by decide) rfl rfl (Nat.le_of_ble_eq_true rfl) dX2_bringBack_7 ?_
  obtain ⟨m4, hm4, h⟩ := d_lt_some h
  refine u_mem hm4 ?_
  refine u_aload_n (pc := 10) F dX2_bringBack_10 3 rfl rfl ?_
  refine u_aload_n (pc := 11) F dX2_bringBack_11 0 rfl rfl ?_
  refine u_getA (pc := 12) F dX2_bringBack_12 (hL 2 0 0 (by decide) rfl) ck_2 fl_2_17 rfl (by decide) (by decide) ?_
  refine u_iload_n (pc := 15) F dX2_bringBack_15 1 rfl rfl ?_
  obtain ⟨b5, h⟩ := d_ab_some h
  refine u_aldI (pc := 16) F dX2_bringBack_16 (hL 2 0 2 (by decide) rfl) rfl b5 rfl ?_
  refine u_put (pc := 17) F dX2_bringBack_17 (hL 1 0 0 (by decide) rfl) ck_1 fl_2_32 rfl (by decide) rfl (ty0 := .int) (by decide +kernel) rfl rfl ?_
  obtain ⟨m6, hm6, h⟩ := d_lt_some h
  refine u_mem hm6 ?_
  have h1 := Option.some.inj h
  subst h1
  exact hR _ _ dX2_bringBack_20
