/- RollingCodes$Past.forget -/
def fX3_forget (σ : Mem) : Option (Mem) :=
    d_lt (upM σ 3 0 (wr (σ 3 0) 0 2 (0 : Int32))) fun m1 => some m1
set_option maxHeartbeats 4000000 in
set_option maxRecDepth 100000 in
theorem c_X3_forget (G : G0) (hL : In G) (σ : Mem) (σ' : Mem) (h : fX3_forget σ = some σ') :
    CV G yX3_forget cX3_forget 1 1 [.ref (adr G (3, 0, 0))] σ (σ') := by
  refine CV.of (by decide +kernel) (Nat.le_of_ble_eq_true rfl) (fun Y hY F hR => ?_)
  unfold fX3_forget at h
  have F : Fx Y G cX3_forget RX3 1 := F
  refine u_lv (lv' := [(0, .ref (adr G (3, 0, 0)))]) [0] rfl ?_
  refine u_aload_n (pc := 0) F dX3_forget_0 0 rfl rfl ?_
  refine u_iconst (v := 0) (pc := 1) F dX3_forget_1 (by decide) ?_
  refine u_put (pc := 2) F dX3_forget_2 (hL 3 0 0 (by decide) rfl) ck_3 fl_3_28 rfl (by decide) rfl (ty0 := .int) (by decide +kernel) rfl rfl ?_
  obtain ⟨m1, hm1, h⟩ := d_lt_some h
  refine u_mem hm1 ?_
  have h1 := Option.some.inj h
  subst h1
  exact hR _ _ dX3_forget_5
/- RollingCodes$Images.forget -/
def fX2_forget_2  : Nat → Mem → Int32 → Option (Mem)
  | 0, _, _ => none
  | fu + 1, σ, x1 =>
    if x1 < (2 : Int32) then (d_ab x1 2 <| d_lt (upM σ 2 0 (wr (σ 2 0) 3 x1.toNatClampNeg (0 : Int32))) fun m3 => d_lt (x1 + (1 : Int32)) fun v4 => fX2_forget_2 fu m3 v4) else (some σ)
def fX2_forget (σ : Mem) : Option (Mem) :=
    fX2_forget_2 1000 σ (0 : Int32)
set_option maxHeartbeats 4000000 in
set_option maxRecDepth 100000 in
theorem wX2_forget_2 (Y : Dy) (G : G0) (hL : In G) (F : Fx Y G cX2_forget RX2 1) (hY : Y.2.2.2.2.2.2.2.2.2.2.2.1 = 2) (σ' : Mem) (hR : ∀ (pc : Nat) (lv : List (Nat × Value)), decode cX2_forget pc = .ok (.return_, 1) → U Y G σ' pc lv []) :
    ∀ (fu : Nat) (σ : Mem) (x1 : Int32), fX2_forget_2 fu σ x1 = some σ' → U Y G σ 2 [(0, .ref (adr G (2, 0, 0))), (1, .int x1)] [] := by
  intro fu
  induction fu with
  | zero =>
    intro σ x1 h
    rw [fX2_forget_2] at h
    cases h
  | succ fu ih =>
    intro σ x1 h
    rw [fX2_forget_2] at h
    refine u_iload_n (pc := 2) F dX2_forget_2 1 rfl rfl ?_
    refine u_iconst (v := 2) (pc := 3) F dX2_forget_3 (by decide) ?_
    refine u_icmp_ge (pc := 4) F 20 dX2_forget_4 (by decide) (fun c1 => ?_) (fun c1 => ?_)
    · rw [if_neg c1] at h
      have h1 := Option.some.inj h
      subst h1
      exact hR _ _ dX2_forget_20
    · rw [if_pos c1] at h
      refine u_aload_n (pc := 7) F dX2_forget_7 0 rfl rfl ?_
      refine u_getA (pc := 8) F dX2_forget_8 (hL 2 0 0 (by decide) rfl) ck_2 fl_2_21 rfl (by decide) (by decide) ?_
      refine u_iload_n (pc := 11) F dX2_forget_11 1 rfl rfl ?_
      refine u_iconst (v := 0) (pc := 12) F dX2_forget_12 (by decide) ?_
      obtain ⟨b2, h⟩ := d_ab_some h
      refine u_astZ (pc := 13) F dX2_forget_13 (hL 2 0 3 (by decide) rfl) rfl b2 rfl ?_
      obtain ⟨m3, hm3, h⟩ := d_lt_some h
      refine u_mem hm3 ?_
      obtain ⟨v4, hv4, h⟩ := d_lt_some h
      refine u_iinc (lv' := [(1, .int v4), (0, .ref (adr G (2, 0, 0)))]) (pc := 14) F dX2_forget_14 1 rfl hv4.symm hY (by decide) rfl ?_
      refine u_goto (pc := 17) F 2 dX2_forget_17 (by decide) ?_
      refine u_lv (lv' := [(0, .ref (adr G (2, 0, 0))), (1, .int v4)]) [1, 0] rfl ?_
      exact ih m3 v4 h
set_option maxHeartbeats 4000000 in
set_option maxRecDepth 100000 in
theorem c_X2_forget (G : G0) (hL : In G) (σ : Mem) (σ' : Mem) (h : fX2_forget σ = some σ') :
    CV G yX2_forget cX2_forget 2 1 [.ref (adr G (2, 0, 0))] σ (σ') := by
  refine CV.of (by decide +kernel) (Nat.le_of_ble_eq_true rfl) (fun Y hY F hR => ?_)
  unfold fX2_forget at h
  have F : Fx Y G cX2_forget RX2 1 := F
  refine u_lv (lv' := [(0, .ref (adr G (2, 0, 0)))]) [0] rfl ?_
  refine u_iconst (v := 0) (pc := 0) F dX2_forget_0 (by decide) ?_
  refine u_istore_n (lv' := [(1, .int (0 : Int32)), (0, .ref (adr G (2, 0, 0)))]) (pc := 1) F dX2_forget_1 rfl hY (by decide) rfl ?_
  refine u_lv (lv' := [(0, .ref (adr G (2, 0, 0))), (1, .int (0 : Int32))]) [1, 0] rfl ?_
  exact wX2_forget_2 Y G hL F hY σ' hR 1000 σ (0 : Int32) h
/- RollingCodes$Past.remember -/
def fX3_remember (σ : Mem) : Option (Mem) :=
    d_ab (σ 3 0 0 1) 16 <| d_bd (fX7_copyFrom (σ 7 (2 + (σ 3 0 0 1).toNatClampNeg)) (σ 7 0)) fun q3 => d_lt (upM σ 7 (2 + (σ 3 0 0 1).toNatClampNeg) q3) fun m4 => d_lt (upM m4 3 0 (wr (m4 3 0) 0 1 (jrem ((m4 3 0 0 1) + (1 : Int32)) (16 : Int32)))) fun m5 => d_lt (if (16 : Int32) < ((m5 3 0 0 2) + (1 : Int32)) then (16 : Int32) else ((m5 3 0 0 2) + (1 : Int32))) fun v6 => d_lt (upM m5 3 0 (wr (m5 3 0) 0 2 v6)) fun m7 => some m7
set_option maxHeartbeats 4000000 in
set_option maxRecDepth 100000 in
theorem c_X3_remember (G : G0) (hL : In G) (σ : Mem) (σ' : Mem) (h : fX3_remember σ = some σ') :
    CV G yX3_remember cX3_remember 2 2 [.ref (adr G (3, 0, 0)), .ref (adr G (7, 0, 0))] σ (σ') := by
  refine CV.of (by decide +kernel) (Nat.le_of_ble_eq_true rfl) (fun Y hY F hR => ?_)
  unfold fX3_remember at h
  have F : Fx Y G cX3_remember RX3 2 := F
  refine u_lv (lv' := [(0, .ref (adr G (3, 0, 0))), (1, .ref (adr G (7, 0, 0)))]) [0, 1] rfl ?_
  refine u_aload_n (pc := 0) F dX3_remember_0 0 rfl rfl ?_
  refine u_getA (pc := 1) F dX3_remember_1 (hL 3 0 0 (by decide) rfl) ck_3 fl_3_11 rfl (by decide) (by decide) ?_
  refine u_aload_n (pc := 4) F dX3_remember_4 0 rfl rfl ?_
  refine u_get (pc := 5) F dX3_remember_5 (hL 3 0 0 (by decide) rfl) ck_3 fl_3_20 rfl (by decide) rfl ?_
  obtain ⟨b1, h⟩ := d_ab_some h
  have hk2 : 2 + (σ 3 0 0 1).toNatClampNeg < 24 := so_lt b1 (by decide)
  refine u_aldO (pc := 8) F dX3_remember_8 (hL 3 0 1 (by decide) rfl) rfl b1 ?_
  refine u_aload_n (pc := 9) F dX3_remember_9 1 rfl rfl ?_
  obtain ⟨q3, hq3, h⟩ := d_bd_some h
  refine u_callv (pc := 10) F (As := [.ref (adr G (7, 0, 0))]) (c_X7_copyFrom G hL (2 + (σ 3 0 0 1).toNatClampNeg) hk2 0 (by decide) (by omega) σ (σ 7 (2 + (σ 3 0 0 1).toNatClampNeg)) (σ 7 0) (rfl) (rfl) q3 hq3) yv_X7_copyFrom ml_3_24 (hL 7 (2 + (σ 3 0 0 1).toNatClampNeg) 0 hk2 rfl) rfl (by decide) rfl rfl (Nat.le_of_ble_eq_true rfl) dX3_remember_10 ?_
  obtain ⟨m4, hm4, h⟩ := d_lt_some h
  refine u_mem hm4 ?_
  refine u_aload_n (pc := 13) F dX3_remember_13 0 rfl rfl ?_
  refine u_aload_n (pc := 14) F dX3_remember_14 0 rfl rfl ?_
  refine u_get (pc := 15) F dX3_remember_15 (hL 3 0 0 (by decide) rfl) ck_3 fl_3_20 rfl (by decide) rfl ?_
  refine u_iconst (v := 1) (pc := 18) F dX3_remember_18 (by decide) ?_
  refine u_iadd (pc := 19) F dX3_remember_19 ?_
  refine u_bipush (v := 16) (pc := 20) F dX3_remember_20 (by decide) ?_
  refine u_irem (pc := 22) F dX3_remember_22 (by decide) ?_
  refine u_put (pc := 23) F dX3_remember_23 (hL 3 0 0 (by decide) rfl) ck_3 fl_3_20 rfl (by decide) rfl (ty0 := .int) (by decide +kernel) rfl rfl ?_
  obtain ⟨m5, hm5, h⟩ := d_lt_some h
  refine u_mem hm5 ?_
  refine u_aload_n (pc := 26) F dX3_remember_26 0 rfl rfl ?_
  refine u_aload_n (pc := 27) F dX3_remember_27 0 rfl rfl ?_
  refine u_get (pc := 28) F dX3_remember_28 (hL 3 0 0 (by decide) rfl) ck_3 fl_3_28 rfl (by decide) rfl ?_
  refine u_iconst (v := 1) (pc := 31) F dX3_remember_31 (by decide) ?_
  refine u_iadd (pc := 32) F dX3_remember_32 ?_
  refine u_bipush (v := 16) (pc := 33) F dX3_remember_33 (by decide) ?_
  refine u_min (pc := 35) F mk_3_31 mt_s_min mt_i mt_c_min (by decide) (Nat.le_of_ble_eq_true rfl) dX3_remember_35 ?_
  obtain ⟨v6, hv6, h⟩ := d_lt_some h
  refine u_topi hv6 ?_
  refine u_put (pc := 38) F dX3_remember_38 (hL 3 0 0 (by decide) rfl) ck_3 fl_3_28 rfl (by decide) rfl (ty0 := .int) (by decide +kernel) rfl rfl ?_
  obtain ⟨m7, hm7, h⟩ := d_lt_some h
  refine u_mem hm7 ?_
  have h1 := Option.some.inj h
  subst h1
  exact hR _ _ dX3_remember_41
/- RollingCodes$Past.takeBack -/
def fX3_takeBack (σ : Mem) : Option (Mem) :=
    if (σ 3 0 0 2) = 0 then (some σ) else (d_lt (upM σ 3 0 (wr (σ 3 0) 0 1 (jrem (((σ 3 0 0 1) + (16 : Int32)) - (1 : Int32)) (16 : Int32)))) fun m2 => d_lt (upM m2 3 0 (wr (m2 3 0) 0 2 ((m2 3 0 0 2) - (1 : Int32)))) fun m3 => d_ab (m3 3 0 0 1) 16 <| d_bd (fX7_copyFrom (m3 7 0) (m3 7 (2 + (m3 3 0 0 1).toNatClampNeg))) fun q6 => d_lt (upM m3 7 0 q6) fun m7 => some m7)
set_option maxHeartbeats 4000000 in
set_option maxRecDepth 100000 in
theorem c_X3_takeBack (G : G0) (hL : In G) (σ : Mem) (σ' : Mem) (h : fX3_takeBack σ = some σ') :
    CV G yX3_takeBack cX3_takeBack 2 2 [.ref (adr G (3, 0, 0)), .ref (adr G (7, 0, 0))] σ (σ') := by
  refine CV.of (by decide +kernel) (Nat.le_of_ble_eq_true rfl) (fun Y hY F hR => ?_)
  unfold fX3_takeBack at h
  have F : Fx Y G cX3_takeBack RX3 2 := F
  refine u_lv (lv' := [(0, .ref (adr G (3, 0, 0))), (1, .ref (adr G (7, 0, 0)))]) [0, 1] rfl ?_
  refine u_aload_n (pc := 0) F dX3_takeBack_0 0 rfl rfl ?_
  refine u_get (pc := 1) F dX3_takeBack_1 (hL 3 0 0 (by decide) rfl) ck_3 fl_3_28 rfl (by decide) rfl ?_
  refine u_if_ne (pc := 4) F 8 dX3_takeBack_4 (by decide) (fun c1 => ?_) (fun c1 => ?_)
  · rw [if_neg c1] at h
    refine u_aload_n (pc := 8) F dX3_takeBack_8 0 rfl rfl ?_
    refine u_aload_n (pc := 9) F dX3_takeBack_9 0 rfl rfl ?_
    refine u_get (pc := 10) F dX3_takeBack_10 (hL 3 0 0 (by decide) rfl) ck_3 fl_3_20 rfl (by decide) rfl ?_
    refine u_bipush (v := 16) (pc := 13) F dX3_takeBack_13 (by decide) ?_
    refine u_iadd (pc := 15) F dX3_takeBack_15 ?_
    refine u_iconst (v := 1) (pc := 16) F dX3_takeBack_16 (by decide) ?_
    refine u_isub (pc := 17) F dX3_takeBack_17 ?_
    refine u_bipush (v := 16) (pc := 18) F dX3_takeBack_18 (by decide) ?_
    refine u_irem (pc := 20) F dX3_takeBack_20 (by decide) ?_
    refine u_put (pc := 21) F dX3_takeBack_21 (hL 3 0 0 (by decide) rfl) ck_3 fl_3_20 rfl (by decide) rfl (ty0 := .int) (by decide +kernel) rfl rfl ?_
    obtain ⟨m2, hm2, h⟩ := d_lt_some h
    refine u_mem hm2 ?_
    refine u_aload_n (pc := 24) F dX3_takeBack_24 0 rfl rfl ?_
    refine u_dup (pc := 25) F dX3_takeBack_25 rfl ?_
    refine u_get (pc := 26) F dX3_takeBack_26 (hL 3 0 0 (by decide) rfl) ck_3 fl_3_28 rfl (by decide) rfl ?_
    refine u_iconst (v := 1) (pc := 29) F dX3_takeBack_29 (by decide) ?_
    refine u_isub (pc := 30) F dX3_takeBack_30 ?_
    refine u_put (pc := 31) F dX3_takeBack_31 (hL 3 0 0 (by decide) rfl) ck_3 fl_3_28 rfl (by decide) rfl (ty0 := .int) (by decide +kernel) rfl rfl ?_
    obtain ⟨m3, hm3, h⟩ := d_lt_some h
    refine u_mem hm3 ?_
    refine u_aload_n (pc := 34) F dX3_takeBack_34 1 rfl rfl ?_
    refine u_aload_n (pc := 35) F dX3_takeBack_35 0 rfl rfl ?_
    refine u_getA (pc := 36) F dX3_takeBack_36 (hL 3 0 0 (by decide) rfl) ck_3 fl_3_11 rfl (by decide) (by decide) ?_
    refine u_aload_n (pc := 39) F dX3_takeBack_39 0 rfl rfl ?_
    refine u_get (pc := 40) F dX3_takeBack_40 (hL 3 0 0 (by decide) rfl) ck_3 fl_3_20 rfl (by decide) rfl ?_
    obtain ⟨b4, h⟩ := d_ab_some h
    have hk5 : 2 + (m3 3 0 0 1).toNatClampNeg < 24 := so_lt b4 (by decide)
    refine u_aldO (pc := 43) F dX3_takeBack_43 (hL 3 0 1 (by decide) rfl) rfl b4 ?_
    obtain ⟨q6, hq6, h⟩ := d_bd_some h
    refine u_callv (pc := 44) F (As := [.ref (adr G (7, 2 + (m3 3 0 0 1).toNatClampNeg, 0))]) (c_X7_copyFrom G hL 0 (by decide) (2 + (m3 3 0 0 1).toNatClampNeg) hk5 (by omega) m3 (m3 7 0) (m3 7 (2 + (m3 3 0 0 1).toNatClampNeg)) (rfl) (rfl) q6 hq6) yv_X7_copyFrom ml_3_24 (hL 7 0 0 (by decide) rfl) rfl (by decide) rfl rfl (Nat.le_of_ble_eq_true rfl) dX3_takeBack_44 ?_
    obtain ⟨m7, hm7, h⟩ := d_lt_some h
    refine u_mem hm7 ?_
    have h1 := Option.some.inj h
    subst h1
    exact hR _ _ dX3_takeBack_47
  · rw [if_pos c1] at h
    have h1 := Option.some.inj h
    subst h1
    exact hR _ _ dX3_takeBack_7
/- RollingCodes$Images.isImage -/
def fX2_isImage (σ : Mem) (x1 : Int32) : Option (Int32) :=
    if x1 < 0 then (some (0 : Int32)) else (if x1 < (2 : Int32) then (some (1 : Int32)) else (some (0 : Int32)))
set_option maxHeartbeats 4000000 in
set_option maxRecDepth 100000 in
theorem c_X2_isImage (G : G0) (hL : In G) (x1 : Int32) (σ : Mem) (r : Int32) (h : fX2_isImage σ x1 = some r) :
    CI G yX2_isImage cX2_isImage 2 .boolean 1 [.ref (adr G (2, 0, 0)), .int x1] σ r σ := by
  refine CI.of (by decide +kernel) (Nat.le_of_ble_eq_true rfl) (fun Y hY F hR => ?_)
  unfold fX2_isImage at h
  have F : Fx Y G cX2_isImage RX2 1 := F
  refine u_lv (lv' := [(0, .ref (adr G (2, 0, 0))), (1, .int x1)]) [0, 1] rfl ?_
  refine u_iload_n (pc := 0) F dX2_isImage_0 1 rfl rfl ?_
  refine u_if_lt (pc := 1) F 13 dX2_isImage_1 (by decide) (fun c1 => ?_) (fun c1 => ?_)
  · rw [if_pos c1] at h
    refine u_iconst (v := 0) (pc := 13) F dX2_isImage_13 (by decide) ?_
    have h1 := Option.some.inj h
    subst h1
    exact hR _ _ rfl dX2_isImage_14
  · rw [if_neg c1] at h
    refine u_iload_n (pc := 4) F dX2_isImage_4 1 rfl rfl ?_
    refine u_iconst (v := 2) (pc := 5) F dX2_isImage_5 (by decide) ?_
    refine u_icmp_ge (pc := 6) F 13 dX2_isImage_6 (by decide) (fun c2 => ?_) (fun c2 => ?_)
    · rw [if_neg c2] at h
      refine u_iconst (v := 0) (pc := 13) F dX2_isImage_13 (by decide) ?_
      have h1 := Option.some.inj h
      subst h1
      exact hR _ _ rfl dX2_isImage_14
    · rw [if_pos c2] at h
      refine u_iconst (v := 1) (pc := 9) F dX2_isImage_9 (by decide) ?_
      refine u_goto (pc := 10) F 14 dX2_isImage_10 (by decide) ?_
      have h1 := Option.some.inj h
      subst h1
      exact hR _ _ rfl dX2_isImage_14
/- RollingCodes$Images.take -/
def fX2_take (σ : Mem) (x1 : Int32) : Option (Mem) :=
    d_ab x1 2 <| d_bd (fX7_copyFrom (σ 7 (18 + x1.toNatClampNeg)) (σ 7 0)) fun q3 => d_lt (upM σ 7 (18 + x1.toNatClampNeg) q3) fun m4 => d_ab x1 2 <| d_lt (upM m4 2 0 (wr (m4 2 0) 2 x1.toNatClampNeg (m4 1 0 0 0))) fun m6 => d_ab x1 2 <| d_lt (upM m6 2 0 (wr (m6 2 0) 3 x1.toNatClampNeg (1 : Int32))) fun m8 => some m8
set_option maxHeartbeats 4000000 in
set_option maxRecDepth 100000 in
theorem c_X2_take (G : G0) (hL : In G) (x1 : Int32) (σ : Mem) (σ' : Mem) (h : fX2_take σ x1 = some σ') :
    CV G yX2_take cX2_take 4 2 [.ref (adr G (2, 0, 0)), .int x1, .ref (adr G (7, 0, 0)), .ref (adr G (1, 0, 0))] σ (σ') := by
  refine CV.of (by decide +kernel) (Nat.le_of_ble_eq_true rfl) (fun Y hY F hR => ?_)
  unfold fX2_take at h
  have F : Fx Y G cX2_take RX2 2 := F
  refine u_lv (lv' := [(0, .ref (adr G (2, 0, 0))), (1, .int x1), (2, .ref (adr G (7, 0, 0))), (3, .ref (adr G (1, 0, 0)))]) [0, 1, 2, 3] rfl ?_
  refine u_aload_n (pc := 0) F dX2_take_0 0 rfl rfl ?_
  refine u_getA (pc := 1) F dX2_take_1 (hL 2 0 0 (by decide) rfl) ck_2 fl_2_11 rfl (by decide) (by decide) ?_
  refine u_iload_n (pc := 4) F dX2_take_4 1 rfl rfl ?_
  obtain ⟨b1, h⟩ := d_ab_some h
  have hk2 : 18 + x1.toNatClampNeg < 24 := so_lt b1 (by decide)
  refine u_aldO (pc := 5) F dX2_take_5 (hL 2 0 1 (by decide) rfl) rfl b1 ?_
  refine u_aload_n (pc := 6) F dX2_take_6 2 rfl rfl ?_
  obtain ⟨q3, hq3, h⟩ := d_bd_some h
  refine u_callv (pc := 7) F (As := [.ref (adr G (7, 0, 0))]) (c_X7_copyFrom G hL (18 + x1.toNatClampNeg) hk2 0 (by decide) (by omega) σ (σ 7 (18 + x1.toNatClampNeg)) (σ 7 0) (rfl) (rfl) q3 hq3) yv_X7_copyFrom ml_2_28 (hL 7 (18 + x1.toNatClampNeg) 0 hk2 rfl) rfl (by decide) rfl rfl (Nat.le_of_ble_eq_true rfl) dX2_take_7 ?_
  obtain ⟨m4, hm4, h⟩ := d_lt_some h
  refine u_mem hm4 ?_
  refine u_aload_n (pc := 10) F dX2_take_10 0 rfl rfl ?_
  refine u_getA (pc := 11) F dX2_take_11 (hL 2 0 0 (by decide) rfl) ck_2 fl_2_17 rfl (by decide) (by decide) ?_
  refine u_iload_n (pc := 14) F dX2_take_14 1 rfl rfl ?_
  refine u_aload_n (pc := 15) F dX2_take_15 3 rfl rfl ?_
  refine u_get (pc := 16) F dX2_take_16 (hL 1 0 0 (by decide) rfl) ck_1 fl_2_32 rfl (by decide) rfl ?_
  obtain ⟨b5, h⟩ := d_ab_some h
  refine u_astI (pc := 19) F dX2_take_19 (hL 2 0 2 (by decide) rfl) rfl b5 rfl ?_
  obtain ⟨m6, hm6, h⟩ := d_lt_some h
  refine u_mem hm6 ?_
  refine u_aload_n (pc := 20) F dX2_take_20 0 rfl rfl ?_
  refine u_getA (pc := 21) F dX2_take_21 (hL 2 0 0 (by decide) rfl) ck_2 fl_2_21 rfl (by decide) (by decide) ?_
  refine u_iload_n (pc := 24) F dX2_take_24 1 rfl rfl ?_
  refine u_iconst (v := 1) (pc := 25) F dX2_take_25 (by decide) ?_
  obtain ⟨b7, h⟩ := d_ab_some h
  refine u_astZ (pc := 26) F dX2_take_26 (hL 2 0 3 (by decide) rfl) rfl b7 rfl ?_
  obtain ⟨m8, hm8, h⟩ := d_lt_some h
  refine u_mem hm8 ?_
  have h1 := Option.some.inj h
  subst h1
  exact hR _ _ dX2_take_27
/- RollingCodes$Images.isTaken -/
def fX2_isTaken (σ : Mem) (x1 : Int32) : Option (Int32) :=
    d_ab x1 2 <| d_zb (σ 2 0 3 x1.toNatClampNeg) <| some (σ 2 0 3 x1.toNatClampNeg)
set_option maxHeartbeats 4000000 in
set_option maxRecDepth 100000 in
theorem c_X2_isTaken (G : G0) (hL : In G) (x1 : Int32) (σ : Mem) (r : Int32) (h : fX2_isTaken σ x1 = some r) :
    CI G yX2_isTaken cX2_isTaken 2 .boolean 1 [.ref (adr G (2, 0, 0)), .int x1] σ r σ := by
  refine CI.of (by decide +kernel) (Nat.le_of_ble_eq_true rfl) (fun Y hY F hR => ?_)
  unfold fX2_isTaken at h
  have F : Fx Y G cX2_isTaken RX2 1 := F
  refine u_lv (lv' := [(0, .ref (adr G (2, 0, 0))), (1, .int x1)]) [0, 1] rfl ?_
  refine u_aload_n (pc := 0) F dX2_isTaken_0 0 rfl rfl ?_
  refine u_getA (pc := 1) F dX2_isTaken_1 (hL 2 0 0 (by decide) rfl) ck_2 fl_2_21 rfl (by decide) (by decide) ?_
  refine u_iload_n (pc := 4) F dX2_isTaken_4 1 rfl rfl ?_
  obtain ⟨b1, h⟩ := d_ab_some h
  refine u_aldZ (pc := 5) F dX2_isTaken_5 (hL 2 0 3 (by decide) rfl) rfl b1 rfl ?_
  obtain ⟨c2, h⟩ := d_zb_some h
  have h1 := Option.some.inj h
  subst h1
  exact hR _ _ (nar_zb c2) dX2_isTaken_6
/- RollingCodes$Images.bringBack -/
def fX2_bringBack (σ : Mem) (x1 : Int32) : Option (Mem) :=
    d_ab x1 2 <| d_bd (fX7_copyFrom (σ 7 0) (σ 7 (18 + x1.toNatClampNeg))) fun q3 => d_lt (upM σ 7 0 q3) fun m4 => d_ab x1 2 <| d_lt (upM m4 1 0 (wr (m4 1 0) 0 0 (m4 2 0 2 x1.toNatClampNeg))) fun m6 => some m6
set_option maxHeartbeats 4000000 in
set_option maxRecDepth 100000 in
theorem c_X2_bringBack (G : G0) (hL : In G) (x1 : Int32) (σ : Mem) (σ' : Mem) (h : fX2_bringBack σ x1 = some σ') :
    CV G yX2_bringBack cX2_bringBack 4 2 [.ref (adr G (2, 0, 0)), .int x1, .ref (adr G (7, 0, 0)), .ref (adr G (1, 0, 0))] σ (σ') := by
  refine CV.of (by decide +kernel) (Nat.le_of_ble_eq_true rfl) (fun Y hY F hR => ?_)
  unfold fX2_bringBack at h
  have F : Fx Y G cX2_bringBack RX2 2 := F
  refine u_lv (lv' := [(0, .ref (adr G (2, 0, 0))), (1, .int x1), (2, .ref (adr G (7, 0, 0))), (3, .ref (adr G (1, 0, 0)))]) [0, 1, 2, 3] rfl ?_
  refine u_aload_n (pc := 0) F dX2_bringBack_0 2 rfl rfl ?_
  refine u_aload_n (pc := 1) F dX2_bringBack_1 0 rfl rfl ?_
  refine u_getA (pc := 2) F dX2_bringBack_2 (hL 2 0 0 (by decide) rfl) ck_2 fl_2_11 rfl (by decide) (by decide) ?_
  refine u_iload_n (pc := 5) F dX2_bringBack_5 1 rfl rfl ?_
  obtain ⟨b1, h⟩ := d_ab_some h
  have hk2 : 18 + x1.toNatClampNeg < 24 := so_lt b1 (by decide)
  refine u_aldO (pc := 6) F dX2_bringBack_6 (hL 2 0 1 (by decide) rfl) rfl b1 ?_
  obtain ⟨q3, hq3, h⟩ := d_bd_some h
  refine u_callv (pc := 7) F (As := [.ref (adr G (7, 18 + x1.toNatClampNeg, 0))]) (c_X7_copyFrom G hL 0 (by decide) (18 + x1.toNatClampNeg) hk2 (by omega) σ (σ 7 0) (σ 7 (18 + x1.toNatClampNeg)) (rfl) (rfl) q3 hq3) yv_X7_copyFrom ml_2_28 (hL 7 0 0 (by decide) rfl) rfl (by decide) rfl rfl (Nat.le_of_ble_eq_true rfl) dX2_bringBack_7 ?_
  obtain ⟨m4, hm4, h⟩ := d_lt_some h
  refine u_mem hm4 ?_
  refine u_aload_n (pc := 10) F dX2_bringBack_10 3 rfl rfl ?_
  refine u_aload_n (pc := 11) F dX2_bringBack_11 0 rfl rfl ?_
  refine u_getA (pc := 12) F dX2_bringBack_12 (hL 2 0 0 (by decide) rfl) ck_2 fl_2_17 rfl (by decide) (by decide) ?_
  refine u_iload_n (pc := 15) F dX2_bringBack_15 1 rfl rfl ?_
  obtain ⟨b5, h⟩ := d_ab_some h
  refine u_aldI (pc := 16) F dX2_bringBack_16 (hL 2 0 2 (by decide) rfl) rfl b5 rfl ?_
  refine u_put (pc := 17) F dX2_bringBack_17 (hL 1 0 0 (by decide) rfl) ck_1 fl_2_32 rfl (by decide) rfl (ty0 := .int) (by decide +kernel) rfl rfl ?_
  obtain ⟨m6, hm6, h⟩ := d_lt_some h
  refine u_mem hm6 ?_
  have h1 := Option.some.inj h
  subst h1
  exact hR _ _ dX2_bringBack_20
