/- RollingCodesModel.inReach -/
def fX11_inReach_4 (mo : Grp) : Nat → Int32 → Int32 → Option (Int32)
  | 0, _, _ => none
  | fu + 1, x1, x2 =>
    if x2 < (mo 0 3) then (d_ab (25 : Int32) 59 <| d_bd (fX11_has (mo 14 (25 : Int32).toNatClampNeg) x2) fun q3 => if q3 = 0 then (d_ab (15 : Int32) 59 <| d_ab x2 4 <| d_bd (fX11_far (mo 14 (15 : Int32).toNatClampNeg) (mo 6 x2.toNatClampNeg)) fun q9 => if q9 ≤ (mo 0 2) then (d_lt (x1 ||| ((1 : Int32) <<< (x2 &&& 31))) fun v13 => d_lt (x2 + (1 : Int32)) fun v14 => fX11_inReach_4 mo fu v13 v14) else (d_lt (x1 ||| (0 : Int32)) fun v11 => d_lt (x2 + (1 : Int32)) fun v12 => fX11_inReach_4 mo fu v11 v12)) else (d_lt (x1 ||| (0 : Int32)) fun v5 => d_lt (x2 + (1 : Int32)) fun v6 => fX11_inReach_4 mo fu v5 v6)) else (some x1)
def fX11_inReach (mo : Grp) : Option (Int32) :=
    fX11_inReach_4 mo 1000 (0 : Int32) (0 : Int32)
set_option maxHeartbeats 4000000 in
set_option maxRecDepth 100000 in
theorem wX11_inReach_4 (Y : Dy) (G : G0) (hL : Im G) (σ : Mem) (mo : Grp) (e_mo : σ 11 0 = mo) (F : Fx Y G cX11_inReach RX11 2) (hY : Y.2.2.2.2.2.2.2.2.2.2.2.1 = 3) (r : Int32) (hR : ∀ (pc : Nat) (lv : List (Nat × Value)), narrow .int (.int r) = .int r → decode cX11_inReach pc = .ok (.ireturn, 1) → U Y G σ pc lv [.int r]) :
    ∀ (fu : Nat) (x1 : Int32) (x2 : Int32), fX11_inReach_4 mo fu x1 x2 = some r → U Y G σ 4 [(0, .ref (adr G (11, 0, 0))), (1, .int x1), (2, .int x2)] [] := by
  intro fu
  induction fu with
  | zero =>
    intro x1 x2 h
    rw [fX11_inReach_4] at h
    cases h
  | succ fu ih =>
    intro x1 x2 h
    rw [fX11_inReach_4] at h
    refine u_iload_n (pc := 4) F dX11_inReach_4 2 rfl rfl ?_
    refine u_aload_n (pc := 5) F dX11_inReach_5 0 rfl rfl ?_
    refine u_get (v := mo 0 3) (pc := 6) F dX11_inReach_6 (hL 11 0 0 (by decide) rfl) ck_11 fl_11_99 rfl (by decide) (congrFun (congrFun (show σ 11 0 = mo from e_mo) 0) 3) ?_
    refine u_icmp_ge (pc := 9) F 65 dX11_inReach_9 (by decide) (fun c1 => ?_) (fun c1 => ?_)
    · rw [if_neg c1] at h
      refine u_iload_n (pc := 65) F dX11_inReach_65 1 rfl rfl ?_
      have h1 := Option.some.inj h
      subst h1
      exact hR _ _ rfl dX11_inReach_66
    · rw [if_pos c1] at h
      refine u_iload_n (pc := 12) F dX11_inReach_12 1 rfl rfl ?_
      refine u_aload_n (pc := 13) F dX11_inReach_13 0 rfl rfl ?_
      refine u_getA (pc := 14) F dX11_inReach_14 (hL 11 0 0 (by decide) rfl) ck_11 fl_11_34 rfl (by decide) (by decide) ?_
      refine u_bipush (v := 25) (pc := 17) F dX11_inReach_17 (by decide) ?_
      obtain ⟨b2, h⟩ := d_ab_some h
      refine u_aldI (v := mo 14 (25 : Int32).toNatClampNeg) (pc := 19) F dX11_inReach_19 (hL 11 0 14 (by decide) rfl) rfl b2 (congrFun (congrFun (show σ 11 0 = mo from e_mo) 14) _) ?_
      refine u_iload_n (pc := 20) F dX11_inReach_20 2 rfl rfl ?_
      obtain ⟨q3, hq3, h⟩ := d_bd_some h
      refine u_callSi (pc := 21) F (As := [.int (mo 14 (25 : Int32).toNatClampNeg), .int x2]) (c_X11_has G hL (mo 14 (25 : Int32).toNatClampNeg) x2 σ q3 hq3) ys_X11_has ml_11_208 (by decide) rfl rfl (Nat.le_of_ble_eq_true rfl) dX11_inReach_21 ?_
      refine u_if_ne (pc := 24) F 56 dX11_inReach_24 (by decide) (fun c4 => ?_) (fun c4 => ?_)
      · rw [if_neg c4] at h
        refine u_iconst (v := 0) (pc := 56) F dX11_inReach_56 (by decide) ?_
        refine u_ior (pc := 57) F dX11_inReach_57 ?_
        obtain ⟨v5, hv5, h⟩ := d_lt_some h
        refine u_topi hv5 ?_
        refine u_istore_n (lv' := [(1, .int v5), (0, .ref (adr G (11, 0, 0))), (2, .int x2)]) (pc := 58) F dX11_inReach_58 rfl hY (by decide) rfl ?_
        obtain ⟨v6, hv6, h⟩ := d_lt_some h
        refine u_iinc (lv' := [(2, .int v6), (1, .int v5), (0, .ref (adr G (11, 0, 0)))]) (pc := 59) F dX11_inReach_59 2 rfl hv6.symm hY (by decide) rfl ?_
        refine u_goto (pc := 62) F 4 dX11_inReach_62 (by decide) ?_
        refine u_lv (lv' := [(0, .ref (adr G (11, 0, 0))), (1, .int v5), (2, .int v6)]) [2, 1, 0] rfl ?_
        exact ih v5 v6 h
      · rw [if_pos c4] at h
        refine u_aload_n (pc := 27) F dX11_inReach_27 0 rfl rfl ?_
        refine u_getA (pc := 28) F dX11_inReach_28 (hL 11 0 0 (by decide) rfl) ck_11 fl_11_34 rfl (by decide) (by decide) ?_
        refine u_bipush (v := 15) (pc := 31) F dX11_inReach_31 (by decide) ?_
        obtain ⟨b7, h⟩ := d_ab_some h
        refine u_aldI (v := mo 14 (15 : Int32).toNatClampNeg) (pc := 33) F dX11_inReach_33 (hL 11 0 14 (by decide) rfl) rfl b7 (congrFun (congrFun (show σ 11 0 = mo from e_mo) 14) _) ?_
        refine u_aload_n (pc := 34) F dX11_inReach_34 0 rfl rfl ?_
        refine u_getA (pc := 35) F dX11_inReach_35 (hL 11 0 0 (by decide) rfl) ck_11 fl_11_13 rfl (by decide) (by decide) ?_
        refine u_iload_n (pc := 38) F dX11_inReach_38 2 rfl rfl ?_
        obtain ⟨b8, h⟩ := d_ab_some h
        refine u_aldI (v := mo 6 x2.toNatClampNeg) (pc := 39) F dX11_inReach_39 (hL 11 0 6 (by decide) rfl) rfl b8 (congrFun (congrFun (show σ 11 0 = mo from e_mo) 6) _) ?_
        obtain ⟨q9, hq9, h⟩ := d_bd_some h
        refine u_callSi (pc := 40) F (As := [.int (mo 14 (15 : Int32).toNatClampNeg), .int (mo 6 x2.toNatClampNeg)]) (c_X11_far G hL (mo 14 (15 : Int32).toNatClampNeg) (mo 6 x2.toNatClampNeg) σ q9 hq9) ys_X11_far ml_11_211 (by decide) rfl rfl (Nat.le_of_ble_eq_true rfl) dX11_inReach_40 ?_
        refine u_aload_n (pc := 43) F dX11_inReach_43 0 rfl rfl ?_
        refine u_get (v := mo 0 2) (pc := 44) F dX11_inReach_44 (hL 11 0 0 (by decide) rfl) ck_11 fl_11_166 rfl (by decide) (congrFun (congrFun (show σ 11 0 = mo from e_mo) 0) 2) ?_
        refine u_icmp_gt (pc := 47) F 56 dX11_inReach_47 (by decide) (fun c10 => ?_) (fun c10 => ?_)
        · rw [if_neg c10] at h
          refine u_iconst (v := 0) (pc := 56) F dX11_inReach_56 (by decide) ?_
          refine u_ior (pc := 57) F dX11_inReach_57 ?_
          obtain ⟨v11, hv11, h⟩ := d_lt_some h
          refine u_topi hv11 ?_
          refine u_istore_n (lv' := [(1, .int v11), (0, .ref (adr G (11, 0, 0))), (2, .int x2)]) (pc := 58) F dX11_inReach_58 rfl hY (by decide) rfl ?_
          obtain ⟨v12, hv12, h⟩ := d_lt_some h
          refine u_iinc (lv' := [(2, .int v12), (1, .int v11), (0, .ref (adr G (11, 0, 0)))]) (pc := 59) F dX11_inReach_59 2 rfl hv12.symm hY (by decide) rfl ?_
          refine u_goto (pc := 62) F 4 dX11_inReach_62 (by decide) ?_
          refine u_lv (lv' := [(0, .ref (adr G (11, 0, 0))), (1, .int v11), (2, .int v12)]) [2, 1, 0] rfl ?_
          exact ih v11 v12 h
        · rw [if_pos c10] at h
          refine u_iconst (v := 1) (pc := 50) F dX11_inReach_50 (by decide) ?_
          refine u_iload_n (pc := 51) F dX11_inReach_51 2 rfl rfl ?_
          refine u_ishl (pc := 52) F dX11_inReach_52 ?_
          refine u_goto (pc := 53) F 57 dX11_inReach_53 (by decide) ?_
          refine u_ior (pc := 57) F dX11_inReach_57 ?_
          obtain ⟨v13, hv13, h⟩ := d_lt_some h
          refine u_topi hv13 ?_
          refine u_istore_n (lv' := [(1, .int v13), (0, .ref (adr G (11, 0, 0))), (2, .int x2)]) (pc := 58) F dX11_inReach_58 rfl hY (by decide) rfl ?_
          obtain ⟨v14, hv14, h⟩ := d_lt_some h
          refine u_iinc (lv' := [(2, .int v14), (1, .int v13), (0, .ref (adr G (11, 0, 0)))]) (pc := 59) F dX11_inReach_59 2 rfl hv14.symm hY (by decide) rfl ?_
          refine u_goto (pc := 62) F 4 dX11_inReach_62 (by decide) ?_
          refine u_lv (lv' := [(0, .ref (adr G (11, 0, 0))), (1, .int v13), (2, .int v14)]) [2, 1, 0] rfl ?_
          exact ih v13 v14 h
set_option maxHeartbeats 4000000 in
set_option maxRecDepth 100000 in
theorem c_X11_inReach (G : G0) (hL : Im G) (σ : Mem) (mo : Grp) (e_mo : σ 11 0 = mo) (r : Int32) (h : fX11_inReach mo = some r) :
    CI G yX11_inReach cX11_inReach 3 .int 2 [.ref (adr G (11, 0, 0))] σ r σ := by
  refine CI.of (by decide +kernel) (Nat.le_of_ble_eq_true rfl) (fun Y hY F hR => ?_)
  unfold fX11_inReach at h
  have F : Fx Y G cX11_inReach RX11 2 := F
  refine u_lv (lv' := [(0, .ref (adr G (11, 0, 0)))]) [0] rfl ?_
  refine u_iconst (v := 0) (pc := 0) F dX11_inReach_0 (by decide) ?_
  refine u_istore_n (lv' := [(1, .int (0 : Int32)), (0, .ref (adr G (11, 0, 0)))]) (pc := 1) F dX11_inReach_1 rfl hY (by decide) rfl ?_
  refine u_iconst (v := 0) (pc := 2) F dX11_inReach_2 (by decide) ?_
  refine u_istore_n (lv' := [(2, .int (0 : Int32)), (1, .int (0 : Int32)), (0, .ref (adr G (11, 0, 0)))]) (pc := 3) F dX11_inReach_3 rfl hY (by decide) rfl ?_
  refine u_lv (lv' := [(0, .ref (adr G (11, 0, 0))), (1, .int (0 : Int32)), (2, .int (0 : Int32))]) [2, 1, 0] rfl ?_
  exact wX11_inReach_4 Y G hL σ mo e_mo F hY r hR 1000 (0 : Int32) (0 : Int32) h
/- RollingCodesModel.opensAll -/
def fX11_opensAll_39  : Nat → Grp → Int32 → Int32 → Int32 → Int32 → Int32 → Option (Int32 × Grp)
  | 0, _, _, _, _, _, _ => none
  | fu + 1, mo, x1, x2, x3, x4, x5 =>
    if x5 < x2 then (d_ab (15 : Int32) 59 <| d_nz x4 <| d_ab (16 : Int32) 59 <| d_nz (mo 14 (16 : Int32).toNatClampNeg) <| d_ab ((17 : Int32) + (jrem (x1 / x4) (mo 14 (16 : Int32).toNatClampNeg))) 59 <| d_bd (fX11_sendFrom mo (mo 14 (15 : Int32).toNatClampNeg) (mo 0 2) (mo 14 ((17 : Int32) + (jrem (x1 / x4) (mo 14 (16 : Int32).toNatClampNeg))).toNatClampNeg)) fun q12 => d_lt (x3 ||| q12.1) fun v13 => d_ab (16 : Int32) 59 <| if (q12.2 14 (16 : Int32).toNatClampNeg) ≤ (1 : Int32) then (d_lt (x4 / (1 : Int32)) fun v16 => d_lt (x5 + (1 : Int32)) fun v17 => fX11_opensAll_39 fu q12.2 x1 x2 v13 v16 v17) else (if x5 < (x2 - (1 : Int32)) then (d_ab (16 : Int32) 59 <| d_nz (q12.2 14 (16 : Int32).toNatClampNeg) <| d_lt (x4 / (q12.2 14 (16 : Int32).toNatClampNeg)) fun v23 => d_lt (x5 + (1 : Int32)) fun v24 => fX11_opensAll_39 fu q12.2 x1 x2 v13 v23 v24) else (d_lt (x4 / (1 : Int32)) fun v19 => d_lt (x5 + (1 : Int32)) fun v20 => fX11_opensAll_39 fu q12.2 x1 x2 v13 v19 v20))) else (d_bd (fX11_putBack mo) fun q4 => d_bd (fX11_inReach q4) fun q5 => if x3 = q5 then (some ((1 : Int32), q4)) else (some ((0 : Int32), q4)))
def fX11_opensAll_12  : Nat → Grp → Int32 → Int32 → Int32 → Int32 → Int32 → Option (Int32 × Grp)
  | 0, _, _, _, _, _, _ => none
  | fu + 1, mo, x1, x2, x3, x4, x5 =>
    if x5 < x2 then (d_ab (16 : Int32) 59 <| d_lt (x4 * (mo 14 (16 : Int32).toNatClampNeg)) fun v26 => d_lt (x5 + (1 : Int32)) fun v27 => fX11_opensAll_12 fu mo x1 x2 x3 v26 v27) else (fX11_opensAll_39 1000 mo x1 x2 x3 x4 (0 : Int32))
def fX11_opensAll (mo : Grp) (x1 : Int32) (x2 : Int32) : Option (Int32 × Grp) :=
    d_bd (fX11_keepNow mo) fun q1 => fX11_opensAll_12 1000 q1 x1 x2 (0 : Int32) (1 : Int32) (1 : Int32)
set_option maxHeartbeats 4000000 in
set_option maxRecDepth 100000 in
theorem wX11_opensAll_39 (Y : Dy) (G : G0) (hL : Im G) (σ : Mem) (F : Fx Y G cX11_opensAll RX11 5) (hY : Y.2.2.2.2.2.2.2.2.2.2.2.1 = 6) (r : Int32) (mo' : Grp) (hR : ∀ (pc : Nat) (lv : List (Nat × Value)), narrow .boolean (.int r) = .int r → decode cX11_opensAll pc = .ok (.ireturn, 1) → U Y G (upM σ 11 0 (mo')) pc lv [.int r]) :
    ∀ (fu : Nat) (mo : Grp) (x1 : Int32) (x2 : Int32) (x3 : Int32) (x4 : Int32) (x5 : Int32), fX11_opensAll_39 fu mo x1 x2 x3 x4 x5 = some (r, mo') → U Y G (upM σ 11 0 mo) 39 [(0, .ref (adr G (11, 0, 0))), (1, .int x1), (2, .int x2), (3, .int x3), (4, .int x4), (5, .int x5)] [] := by
  intro fu
  induction fu with
  | zero =>
    intro mo x1 x2 x3 x4 x5 h
    rw [fX11_opensAll_39] at h
    cases h
  | succ fu ih =>
    intro mo x1 x2 x3 x4 x5 h
    rw [fX11_opensAll_39] at h
    refine u_iload (pc := 39) F dX11_opensAll_39 5 rfl ?_
    refine u_iload_n (pc := 41) F dX11_opensAll_41 2 rfl rfl ?_
    refine u_icmp_ge (pc := 42) F 124 dX11_opensAll_42 (by decide) (fun c3 => ?_) (fun c3 => ?_)
    · rw [if_neg c3] at h
      refine u_aload_n (pc := 124) F dX11_opensAll_124 0 rfl rfl ?_
      obtain ⟨q4, hq4, h⟩ := d_bd_some h
      refine u_callv (pc := 125) F (As := []) (c_X11_putBack G hL (upM σ 11 0 mo) mo (upM_same _ _ _ _) q4 hq4) yv_X11_putBack ml_11_278 (hL 11 0 0 (by decide) rfl) rfl (by decide) rfl rfl (Nat.le_of_ble_eq_true rfl) dX11_opensAll_125 ?_
      refine u_mem (σ2 := (upM σ 11 0 q4)) (by first | (rw [upM_upM]; done) | (rw [upM_mid _ _ _ _ (by decide)]; done) | (rw [upM_mid _ _ _ _ (by decide), upM_upM]; done) | (rw [upM_mid _ _ _ _ (by decide), upM_mid _ _ _ _ (by decide)]; done)) ?_
      refine u_iload_n (pc := 128) F dX11_opensAll_128 3 rfl rfl ?_
      refine u_aload_n (pc := 129) F dX11_opensAll_129 0 rfl rfl ?_
      obtain ⟨q5, hq5, h⟩ := d_bd_some h
      refine u_calli (pc := 130) F (As := []) (c_X11_inReach G hL (upM σ 11 0 q4) q4 (upM_same _ _ _ _) q5 hq5) yv_X11_inReach ml_11_295 (hL 11 0 0 (by decide) rfl) rfl (by decide) rfl rfl (Nat.le_of_ble_eq_true rfl) dX11_opensAll_130 ?_
      refine u_icmp_ne (pc := 133) F 140 dX11_opensAll_133 (by decide) (fun c6 => ?_) (fun c6 => ?_)
      · rw [if_neg c6] at h
        refine u_iconst (v := 0) (pc := 140) F dX11_opensAll_140 (by decide) ?_
        have h1 := Option.some.inj h
        obtain ⟨hj0, hr0⟩ := Prod.mk.inj h1
        subst hj0
        subst hr0
        exact hR _ _ rfl dX11_opensAll_141
      · rw [if_pos c6] at h
        refine u_iconst (v := 1) (pc := 136) F dX11_opensAll_136 (by decide) ?_
        refine u_goto (pc := 137) F 141 dX11_opensAll_137 (by decide) ?_
        have h1 := Option.some.inj h
        obtain ⟨hj0, hr0⟩ := Prod.mk.inj h1
        subst hj0
        subst hr0
        exact hR _ _ rfl dX11_opensAll_141
    · rw [if_pos c3] at h
      refine u_iload_n (pc := 45) F dX11_opensAll_45 3 rfl rfl ?_
      refine u_aload_n (pc := 46) F dX11_opensAll_46 0 rfl rfl ?_
      refine u_aload_n (pc := 47) F dX11_opensAll_47 0 rfl rfl ?_
      refine u_getA (pc := 48) F dX11_opensAll_48 (hL 11 0 0 (by decide) rfl) ck_11 fl_11_34 rfl (by decide) (by decide) ?_
      refine u_bipush (v := 15) (pc := 51) F dX11_opensAll_51 (by decide) ?_
      obtain ⟨b7, h⟩ := d_ab_some h
      refine u_aldI1 (pc := 53) F dX11_opensAll_53 (hL 11 0 14 (by decide) rfl) rfl b7 ?_
      refine u_aload_n (pc := 54) F dX11_opensAll_54 0 rfl rfl ?_
      refine u_get1 (pc := 55) F dX11_opensAll_55 (hL 11 0 0 (by decide) rfl) ck_11 fl_11_166 rfl (by decide) ?_
      refine u_aload_n (pc := 58) F dX11_opensAll_58 0 rfl rfl ?_
      refine u_getA (pc := 59) F dX11_opensAll_59 (hL 11 0 0 (by decide) rfl) ck_11 fl_11_34 rfl (by decide) (by decide) ?_
      refine u_bipush (v := 17) (pc := 62) F dX11_opensAll_62 (by decide) ?_
      refine u_iload_n (pc := 64) F dX11_opensAll_64 1 rfl rfl ?_
      refine u_iload (pc := 65) F dX11_opensAll_65 4 rfl ?_
      obtain ⟨c8, h⟩ := d_nz_some h
      refine u_idiv (pc := 67) F dX11_opensAll_67 c8 ?_
      refine u_aload_n (pc := 68) F dX11_opensAll_68 0 rfl rfl ?_
      refine u_getA (pc := 69) F dX11_opensAll_69 (hL 11 0 0 (by decide) rfl) ck_11 fl_11_34 rfl (by decide) (by decide) ?_
      refine u_bipush (v := 16) (pc := 72) F dX11_opensAll_72 (by decide) ?_
      obtain ⟨b9, h⟩ := d_ab_some h
      refine u_aldI1 (pc := 74) F dX11_opensAll_74 (hL 11 0 14 (by decide) rfl) rfl b9 ?_
      obtain ⟨c10, h⟩ := d_nz_some h
      refine u_irem (pc := 75) F dX11_opensAll_75 c10 ?_
      refine u_iadd (pc := 76) F dX11_opensAll_76 ?_
      obtain ⟨b11, h⟩ := d_ab_some h
      refine u_aldI1 (pc := 77) F dX11_opensAll_77 (hL 11 0 14 (by decide) rfl) rfl b11 ?_
      obtain ⟨q12, hq12, h⟩ := d_bd_some h
      refine u_calli (pc := 78) F (As := [.int (mo 14 (15 : Int32).toNatClampNeg), .int (mo 0 2), .int (mo 14 ((17 : Int32) + (jrem (x1 / x4) (mo 14 (16 : Int32).toNatClampNeg))).toNatClampNeg)]) (c_X11_sendFrom G hL (mo 14 (15 : Int32).toNatClampNeg) (mo 0 2) (mo 14 ((17 : Int32) + (jrem (x1 / x4) (mo 14 (16 : Int32).toNatClampNeg))).toNatClampNeg) (upM σ 11 0 mo) mo (upM_same _ _ _ _) q12.1 q12.2 hq12) yv_X11_sendFrom ml_11_217 (hL 11 0 0 (by decide) rfl) rfl (by decide) rfl rfl (Nat.le_of_ble_eq_true rfl) dX11_opensAll_78 ?_
      refine u_mem (σ2 := (upM σ 11 0 q12.2)) (by first | (rw [upM_upM]; done) | (rw [upM_mid _ _ _ _ (by decide)]; done) | (rw [upM_mid _ _ _ _ (by decide), upM_upM]; done) | (rw [upM_mid _ _ _ _ (by decide), upM_mid _ _ _ _ (by decide)]; done)) ?_
      refine u_ior (pc := 81) F dX11_opensAll_81 ?_
      obtain ⟨v13, hv13, h⟩ := d_lt_some h
      refine u_topi hv13 ?_
      refine u_istore_n (lv' := [(3, .int v13), (0, .ref (adr G (11, 0, 0))), (1, .int x1), (2, .int x2), (4, .int x4), (5, .int x5)]) (pc := 82) F dX11_opensAll_82 rfl hY (by decide) rfl ?_
      refine u_iload (pc := 83) F dX11_opensAll_83 4 rfl ?_
      refine u_aload_n (pc := 85) F dX11_opensAll_85 1 rfl rfl ?_
      refine u_getA (pc := 86) F dX11_opensAll_86 (hL 11 0 0 (by decide) rfl) ck_11 fl_11_34 rfl (by decide) (by decide) ?_
      refine u_bipush (v := 16) (pc := 89) F dX11_opensAll_89 (by decide) ?_
      obtain ⟨b14, h⟩ := d_ab_some h
      refine u_aldI1 (pc := 91) F dX11_opensAll_91 (hL 11 0 14 (by decide) rfl) rfl b14 ?_
      refine u_iconst (v := 1) (pc := 92) F dX11_opensAll_92 (by decide) ?_
      refine u_icmp_le (pc := 93) F 114 dX11_opensAll_93 (by decide) (fun c15 => ?_) (fun c15 => ?_)
      · rw [if_pos c15] at h
        refine u_iconst (v := 1) (pc := 114) F dX11_opensAll_114 (by decide) ?_
        refine u_idiv (pc := 115) F dX11_opensAll_115 (by decide) ?_
        obtain ⟨v16, hv16, h⟩ := d_lt_some h
        refine u_topi hv16 ?_
        refine u_istore (lv' := [(4, .int v16), (3, .int v13), (0, .ref (adr G (11, 0, 0))), (1, .int x1), (2, .int x2), (5, .int x5)]) (pc := 116) F dX11_opensAll_116 hY (by decide) rfl ?_
        obtain ⟨v17, hv17, h⟩ := d_lt_some h
        refine u_iinc (lv' := [(5, .int v17), (4, .int v16), (3, .int v13), (0, .ref (adr G (11, 0, 0))), (1, .int x1), (2, .int x2)]) (pc := 118) F dX11_opensAll_118 5 rfl hv17.symm hY (by decide) rfl ?_
        refine u_goto (pc := 121) F 39 dX11_opensAll_121 (by decide) ?_
        refine u_lv (lv' := [(0, .ref (adr G (11, 0, 0))), (1, .int x1), (2, .int x2), (3, .int v13), (4, .int v16), (5, .int v17)]) [3, 4, 5, 2, 1, 0] rfl ?_
        exact ih q12.2 x1 x2 v13 v16 v17 h
      · rw [if_neg c15] at h
        refine u_iload (pc := 96) F dX11_opensAll_96 5 rfl ?_
        refine u_iload_n (pc := 98) F dX11_opensAll_98 3 rfl rfl ?_
        refine u_iconst (v := 1) (pc := 99) F dX11_opensAll_99 (by decide) ?_
        refine u_isub (pc := 100) F dX11_opensAll_100 ?_
        refine u_icmp_ge (pc := 101) F 114 dX11_opensAll_101 (by decide) (fun c18 => ?_) (fun c18 => ?_)
        · rw [if_neg c18] at h
          refine u_iconst (v := 1) (pc := 114) F dX11_opensAll_114 (by decide) ?_
          refine u_idiv (pc := 115) F dX11_opensAll_115 (by decide) ?_
          obtain ⟨v19, hv19, h⟩ := d_lt_some h
          refine u_topi hv19 ?_
          refine u_istore (lv' := [(4, .int v19), (3, .int v13), (0, .ref (adr G (11, 0, 0))), (1, .int x1), (2, .int x2), (5, .int x5)]) (pc := 116) F dX11_opensAll_116 hY (by decide) rfl ?_
          obtain ⟨v20, hv20, h⟩ := d_lt_some h
          refine u_iinc (lv' := [(5, .int v20), (4, .int v19), (3, .int v13), (0, .ref (adr G (11, 0, 0))), (1, .int x1), (2, .int x2)]) (pc := 118) F dX11_opensAll_118 5 rfl hv20.symm hY (by decide) rfl ?_
          refine u_goto (pc := 121) F 39 dX11_opensAll_121 (by decide) ?_
          refine u_lv (lv' := [(0, .ref (adr G (11, 0, 0))), (1, .int x1), (2, .int x2), (3, .int v13), (4, .int v19), (5, .int v20)]) [3, 4, 5, 2, 1, 0] rfl ?_
          exact ih q12.2 x1 x2 v13 v19 v20 h
        · rw [if_pos c18] at h
          refine u_aload_n (pc := 104) F dX11_opensAll_104 1 rfl rfl ?_
          refine u_getA (pc := 105) F dX11_opensAll_105 (hL 11 0 0 (by decide) rfl) ck_11 fl_11_34 rfl (by decide) (by decide) ?_
          refine u_bipush (v := 16) (pc := 108) F dX11_opensAll_108 (by decide) ?_
          obtain ⟨b21, h⟩ := d_ab_some h
          refine u_aldI1 (pc := 110) F dX11_opensAll_110 (hL 11 0 14 (by decide) rfl) rfl b21 ?_
          refine u_goto (pc := 111) F 115 dX11_opensAll_111 (by decide) ?_
          obtain ⟨c22, h⟩ := d_nz_some h
          refine u_idiv (pc := 115) F dX11_opensAll_115 c22 ?_
          obtain ⟨v23, hv23, h⟩ := d_lt_some h
          refine u_topi hv23 ?_
          refine u_istore (lv' := [(4, .int v23), (3, .int v13), (0, .ref (adr G (11, 0, 0))), (1, .int x1), (2, .int x2), (5, .int x5)]) (pc := 116) F dX11_opensAll_116 hY (by decide) rfl ?_
          obtain ⟨v24, hv24, h⟩ := d_lt_some h
          refine u_iinc (lv' := [(5, .int v24), (4, .int v23), (3, .int v13), (0, .ref (adr G (11, 0, 0))), (1, .int x1), (2, .int x2)]) (pc := 118) F dX11_opensAll_118 5 rfl hv24.symm hY (by decide) rfl ?_
          refine u_goto (pc := 121) F 39 dX11_opensAll_121 (by decide) ?_
          refine u_lv (lv' := [(0, .ref (adr G (11, 0, 0))), (1, .int x1), (2, .int x2), (3, .int v13), (4, .int v23), (5, .int v24)]) [3, 4, 5, 2, 1, 0] rfl ?_
          exact ih q12.2 x1 x2 v13 v23 v24 h
set_option maxHeartbeats 4000000 in
set_option maxRecDepth 100000 in
theorem wX11_opensAll_12 (Y : Dy) (G : G0) (hL : Im G) (σ : Mem) (F : Fx Y G cX11_opensAll RX11 5) (hY : Y.2.2.2.2.2.2.2.2.2.2.2.1 = 6) (r : Int32) (mo' : Grp) (hR : ∀ (pc : Nat) (lv : List (Nat × Value)), narrow .boolean (.int r) = .int r → decode cX11_opensAll pc = .ok (.ireturn, 1) → U Y G (upM σ 11 0 (mo')) pc lv [.int r]) :
    ∀ (fu : Nat) (mo : Grp) (x1 : Int32) (x2 : Int32) (x3 : Int32) (x4 : Int32) (x5 : Int32), fX11_opensAll_12 fu mo x1 x2 x3 x4 x5 = some (r, mo') → U Y G (upM σ 11 0 mo) 12 [(0, .ref (adr G (11, 0, 0))), (1, .int x1), (2, .int x2), (3, .int x3), (4, .int x4), (5, .int x5)] [] := by
  intro fu
  induction fu with
  | zero =>
    intro mo x1 x2 x3 x4 x5 h
    rw [fX11_opensAll_12] at h
    cases h
  | succ fu ih =>
    intro mo x1 x2 x3 x4 x5 h
    rw [fX11_opensAll_12] at h
    refine u_iload (pc := 12) F dX11_opensAll_12 5 rfl ?_
    refine u_iload_n (pc := 14) F dX11_opensAll_14 2 rfl rfl ?_
    refine u_icmp_ge (pc := 15) F 36 dX11_opensAll_15 (by decide) (fun c2 => ?_) (fun c2 => ?_)
    · rw [if_neg c2] at h
      refine u_iconst (v := 0) (pc := 36) F dX11_opensAll_36 (by decide) ?_
      refine u_istore (lv' := [(5, .int (0 : Int32)), (0, .ref (adr G (11, 0, 0))), (1, .int x1), (2, .int x2), (3, .int x3), (4, .int x4)]) (pc := 37) F dX11_opensAll_37 hY (by decide) rfl ?_
      refine u_lv (lv' := [(0, .ref (adr G (11, 0, 0))), (1, .int x1), (2, .int x2), (3, .int x3), (4, .int x4), (5, .int (0 : Int32))]) [1, 2, 3, 4, 5, 0] rfl ?_
      exact wX11_opensAll_39 Y G hL σ F hY r mo' hR 1000 mo x1 x2 x3 x4 (0 : Int32) h
    · rw [if_pos c2] at h
      refine u_iload (pc := 18) F dX11_opensAll_18 4 rfl ?_
      refine u_aload_n (pc := 20) F dX11_opensAll_20 0 rfl rfl ?_
      refine u_getA (pc := 21) F dX11_opensAll_21 (hL 11 0 0 (by decide) rfl) ck_11 fl_11_34 rfl (by decide) (by decide) ?_
      refine u_bipush (v := 16) (pc := 24) F dX11_opensAll_24 (by decide) ?_
      obtain ⟨b25, h⟩ := d_ab_some h
      refine u_aldI1 (pc := 26) F dX11_opensAll_26 (hL 11 0 14 (by decide) rfl) rfl b25 ?_
      refine u_imul (pc := 27) F dX11_opensAll_27 ?_
      obtain ⟨v26, hv26, h⟩ := d_lt_some h
      refine u_topi hv26 ?_
      refine u_istore (lv' := [(4, .int v26), (0, .ref (adr G (11, 0, 0))), (1, .int x1), (2, .int x2), (3, .int x3), (5, .int x5)]) (pc := 28) F dX11_opensAll_28 hY (by decide) rfl ?_
      obtain ⟨v27, hv27, h⟩ := d_lt_some h
      refine u_iinc (lv' := [(5, .int v27), (4, .int v26), (0, .ref (adr G (11, 0, 0))), (1, .int x1), (2, .int x2), (3, .int x3)]) (pc := 30) F dX11_opensAll_30 5 rfl hv27.symm hY (by decide) rfl ?_
      refine u_goto (pc := 33) F 12 dX11_opensAll_33 (by decide) ?_
      refine u_lv (lv' := [(0, .ref (adr G (11, 0, 0))), (1, .int x1), (2, .int x2), (3, .int x3), (4, .int v26), (5, .int v27)]) [2, 3, 4, 5, 1, 0] rfl ?_
      exact ih mo x1 x2 x3 v26 v27 h
set_option maxHeartbeats 4000000 in
set_option maxRecDepth 100000 in
theorem c_X11_opensAll (G : G0) (hL : Im G) (x1 : Int32) (x2 : Int32) (σ : Mem) (mo : Grp) (e_mo : σ 11 0 = mo) (r : Int32) (mo' : Grp) (h : fX11_opensAll mo x1 x2 = some (r, mo')) :
    CI G yX11_opensAll cX11_opensAll 6 .boolean 5 [.ref (adr G (11, 0, 0)), .int x1, .int x2] σ r (upM σ 11 0 (mo')) := by
  refine CI.of (by decide +kernel) (Nat.le_of_ble_eq_true rfl) (fun Y hY F hR => ?_)
  unfold fX11_opensAll at h
  have F : Fx Y G cX11_opensAll RX11 5 := F
  refine u_mem (σ2 := (upM σ 11 0 mo)) (by rw [← e_mo]; simp only [upM_self]) ?_
  refine u_lv (lv' := [(0, .ref (adr G (11, 0, 0))), (1, .int x1), (2, .int x2)]) [0, 1, 2] rfl ?_
  refine u_aload_n (pc := 0) F dX11_opensAll_0 0 rfl rfl ?_
  obtain ⟨q1, hq1, h⟩ := d_bd_some h
  refine u_callv (pc := 1) F (As := []) (c_X11_keepNow G hL (upM σ 11 0 mo) mo (upM_same _ _ _ _) q1 hq1) yv_X11_keepNow ml_11_275 (hL 11 0 0 (by decide) rfl) rfl (by decide) rfl rfl (Nat.le_of_ble_eq_true rfl) dX11_opensAll_1 ?_
  refine u_mem (σ2 := (upM σ 11 0 q1)) (by first | (rw [upM_upM]; done) | (rw [upM_mid _ _ _ _ (by decide)]; done) | (rw [upM_mid _ _ _ _ (by decide), upM_upM]; done) | (rw [upM_mid _ _ _ _ (by decide), upM_mid _ _ _ _ (by decide)]; done)) ?_
  refine u_iconst (v := 0) (pc := 4) F dX11_opensAll_4 (by decide) ?_
  refine u_istore_n (lv' := [(3, .int (0 : Int32)), (0, .ref (adr G (11, 0, 0))), (1, .int x1), (2, .int x2)]) (pc := 5) F dX11_opensAll_5 rfl hY (by decide) rfl ?_
  refine u_iconst (v := 1) (pc := 6) F dX11_opensAll_6 (by decide) ?_
  refine u_istore (lv' := [(4, .int (1 : Int32)), (3, .int (0 : Int32)), (0, .ref (adr G (11, 0, 0))), (1, .int x1), (2, .int x2)]) (pc := 7) F dX11_opensAll_7 hY (by decide) rfl ?_
  refine u_iconst (v := 1) (pc := 9) F dX11_opensAll_9 (by decide) ?_
  refine u_istore (lv' := [(5, .int (1 : Int32)), (4, .int (1 : Int32)), (3, .int (0 : Int32)), (0, .ref (adr G (11, 0, 0))), (1, .int x1), (2, .int x2)]) (pc := 10) F dX11_opensAll_10 hY (by decide) rfl ?_
  refine u_lv (lv' := [(0, .ref (adr G (11, 0, 0))), (1, .int x1), (2, .int x2), (3, .int (0 : Int32)), (4, .int (1 : Int32)), (5, .int (1 : Int32))]) [3, 4, 5, 2, 1, 0] rfl ?_
  exact wX11_opensAll_12 Y G hL σ F hY r mo' hR 1000 q1 x1 x2 (0 : Int32) (1 : Int32) (1 : Int32) h
/- RollingCodesModel.findRow -/
def fX11_findRow_49  : Nat → Grp → Int32 → Int32 → Int32 → Option (Int32 × Int32 × Grp)
  | 0, _, _, _, _ => none
  | fu + 1, mo, x1, x2, x3 =>
    if x3 < x1 then (if (mo 0 35) < 0 then (d_bd (fX11_opensAll mo x3 x2) fun q12 => d_lt (if q12.1 = 0 then (-1 : Int32) else x2) fun v13 => d_lt (wr q12.2 0 35 v13) fun g15 => d_lt (wr g15 0 36 x3) fun g16 => d_lt (x3 + (1 : Int32)) fun v17 => fX11_findRow_49 fu g16 x1 x2 v17) else (some (x1, x2, mo))) else (some (x1, x2, mo))
def fX11_findRow_25  : Nat → Grp → Int32 → Int32 → Option (Grp)
  | 0, _, _, _ => none
  | fu + 1, mo, x1, x2 =>
    if x2 ≤ (3 : Int32) then (if (mo 0 35) < 0 then (d_ab (16 : Int32) 59 <| d_lt (x1 * (mo 14 (16 : Int32).toNatClampNeg)) fun v9 => d_bd (fX11_findRow_49 1000 mo v9 x2 (0 : Int32)) fun q18 => d_lt ((q18.2.1) + (1 : Int32)) fun v19 => fX11_findRow_25 fu (q18.2.2) q18.1 v19) else (some mo)) else (some mo)
def fX11_findRow (mo : Grp) : Option (Grp) :=
    d_bd (fX11_inReach mo) fun q1 => d_lt (if q1 = 0 then (0 : Int32) else (-1 : Int32)) fun v2 => d_lt (wr mo 0 35 v2) fun g4 => d_lt (wr g4 0 36 (0 : Int32)) fun g5 => fX11_findRow_25 1000 g5 (1 : Int32) (1 : Int32)
set_option maxHeartbeats 4000000 in
set_option maxRecDepth 100000 in
theorem wX11_findRow_49 (Y : Dy) (G : G0) (hL : Im G) (σ : Mem) (F : Fx Y G cX11_findRow RX11 6) (hY : Y.2.2.2.2.2.2.2.2.2.2.2.1 = 5) :
    ∀ (fu : Nat) (mo : Grp) (x1 : Int32) (x2 : Int32) (x3 : Int32) (z1 : Int32) (z2 : Int32) (z_mo : Grp), fX11_findRow_49 fu mo x1 x2 x3 = some (z1, z2, z_mo) → U Y G (upM σ 11 0 z_mo) 94 [(0, .ref (adr G (11, 0, 0))), (1, .int z1), (2, .int z2)] [] → U Y G (upM σ 11 0 mo) 49 [(0, .ref (adr G (11, 0, 0))), (1, .int x1), (2, .int x2), (3, .int x3)] [] := by
  intro fu
  induction fu with
  | zero =>
    intro mo x1 x2 x3 z1 z2 z_mo h hK
    rw [fX11_findRow_49] at h
    cases h
  | succ fu ih =>
    intro mo x1 x2 x3 z1 z2 z_mo h hK
    rw [fX11_findRow_49] at h
    refine u_iload_n (pc := 49) F dX11_findRow_49 3 rfl rfl ?_
    refine u_iload_n (pc := 50) F dX11_findRow_50 1 rfl rfl ?_
    refine u_icmp_ge (pc := 51) F 94 dX11_findRow_51 (by decide) (fun c10 => ?_) (fun c10 => ?_)
    · rw [if_neg c10] at h
      have h1 := Option.some.inj h
      obtain ⟨hj0, hr0⟩ := Prod.mk.inj h1
      obtain ⟨hj1, hr1⟩ := Prod.mk.inj hr0
      subst hj0
      subst hj1
      subst hr1
      refine u_lv [0, 1, 2] rfl ?_
      exact hK
    · rw [if_pos c10] at h
      refine u_aload_n (pc := 54) F dX11_findRow_54 0 rfl rfl ?_
      refine u_get1 (pc := 55) F dX11_findRow_55 (hL 11 0 0 (by decide) rfl) ck_11 fl_11_298 rfl (by decide) ?_
      refine u_if_ge (pc := 58) F 94 dX11_findRow_58 (by decide) (fun c11 => ?_) (fun c11 => ?_)
      · rw [if_neg c11] at h
        have h1 := Option.some.inj h
        obtain ⟨hj0, hr0⟩ := Prod.mk.inj h1
        obtain ⟨hj1, hr1⟩ := Prod.mk.inj hr0
        subst hj0
        subst hj1
        subst hr1
        refine u_lv [0, 1, 2] rfl ?_
        exact hK
      · rw [if_pos c11] at h
        refine u_aload_n (pc := 61) F dX11_findRow_61 0 rfl rfl ?_
        refine u_iload_n (pc := 62) F dX11_findRow_62 3 rfl rfl ?_
        refine u_iload_n (pc := 63) F dX11_findRow_63 2 rfl rfl ?_
        obtain ⟨q12, hq12, h⟩ := d_bd_some h
        refine u_calli (pc := 64) F (As := [.int x3, .int x2]) (c_X11_opensAll G hL x3 x2 (upM σ 11 0 mo) mo (upM_same _ _ _ _) q12.1 q12.2 hq12) yv_X11_opensAll ml_11_304 (hL 11 0 0 (by decide) rfl) rfl (by decide) rfl rfl (Nat.le_of_ble_eq_true rfl) dX11_findRow_64 ?_
        refine u_mem (σ2 := (upM σ 11 0 q12.2)) (by first | (rw [upM_upM]; done) | (rw [upM_mid _ _ _ _ (by decide)]; done) | (rw [upM_mid _ _ _ _ (by decide), upM_upM]; done) | (rw [upM_mid _ _ _ _ (by decide), upM_mid _ _ _ _ (by decide)]; done)) ?_
        refine u_istore (lv' := [(4, .int q12.1), (0, .ref (adr G (11, 0, 0))), (1, .int x1), (2, .int x2), (3, .int x3)]) (pc := 67) F dX11_findRow_67 hY (by decide) rfl ?_
        refine u_aload_n (pc := 69) F dX11_findRow_69 1 rfl rfl ?_
        refine u_iload (pc := 70) F dX11_findRow_70 0 rfl ?_
        obtain ⟨v13, hv13, h⟩ := d_lt_some h
        suffices hj : U Y G (upM σ 11 0 q12.2) 80 [(4, .int q12.1), (0, .ref (adr G (11, 0, 0))), (1, .int x1), (2, .int x2), (3, .int x3)] [.int v13, .ref (adr G (11, 0, 0))] by
          refine u_if_eq (pc := 72) F 79 dX11_findRow_72 (by decide) (fun c14 => ?_) (fun c14 => ?_)
          · rw [if_pos c14] at hv13
            refine u_iconst (v := -1) (pc := 79) F dX11_findRow_79 (by decide) ?_
            exact u_topi hv13 hj
          · rw [if_neg c14] at hv13
            refine u_iload_n (pc := 75) F dX11_findRow_75 3 rfl rfl ?_
            refine u_goto (pc := 76) F 80 dX11_findRow_76 (by decide) ?_
            exact u_topi hv13 hj
        refine u_put1 (pc := 80) F dX11_findRow_80 (hL 11 0 0 (by decide) rfl) ck_11 fl_11_298 rfl (by decide) rfl (ty0 := .int) (by decide +kernel) rfl rfl ?_
        obtain ⟨g15, hg15, h⟩ := d_lt_some h
        refine u_mem (σ2 := (upM σ 11 0 g15)) (by rw [hg15]) ?_
        refine u_aload_n (pc := 83) F dX11_findRow_83 1 rfl rfl ?_
        refine u_iload_n (pc := 84) F dX11_findRow_84 4 rfl rfl ?_
        refine u_put1 (pc := 85) F dX11_findRow_85 (hL 11 0 0 (by decide) rfl) ck_11 fl_11_301 rfl (by decide) rfl (ty0 := .int) (by decide +kernel) rfl rfl ?_
        obtain ⟨g16, hg16, h⟩ := d_lt_some h
        refine u_mem (σ2 := (upM σ 11 0 g16)) (by rw [hg16]) ?_
        obtain ⟨v17, hv17, h⟩ := d_lt_some h
        refine u_iinc (lv' := [(3, .int v17), (4, .int q12.1), (0, .ref (adr G (11, 0, 0))), (1, .int x1), (2, .int x2)]) (pc := 88) F dX11_findRow_88 4 rfl hv17.symm hY (by decide) rfl ?_
        refine u_goto (pc := 91) F 49 dX11_findRow_91 (by decide) ?_
        refine u_lv (lv' := [(0, .ref (adr G (11, 0, 0))), (1, .int x1), (2, .int x2), (3, .int v17)]) [2, 3, 4, 0] rfl ?_
        exact ih g16 x1 x2 v17 z1 z2 z_mo h hK
set_option maxHeartbeats 4000000 in
set_option maxRecDepth 100000 in
theorem wX11_findRow_25 (Y : Dy) (G : G0) (hL : Im G) (σ : Mem) (F : Fx Y G cX11_findRow RX11 6) (hY : Y.2.2.2.2.2.2.2.2.2.2.2.1 = 5) (mo' : Grp) (hR : ∀ (pc : Nat) (lv : List (Nat × Value)), decode cX11_findRow pc = .ok (.return_, 1) → U Y G (upM σ 11 0 (mo')) pc lv []) :
    ∀ (fu : Nat) (mo : Grp) (x1 : Int32) (x2 : Int32), fX11_findRow_25 fu mo x1 x2 = some mo' → U Y G (upM σ 11 0 mo) 25 [(0, .ref (adr G (11, 0, 0))), (1, .int x1), (2, .int x2)] [] := by
  intro fu
  induction fu with
  | zero =>
    intro mo x1 x2 h
    rw [fX11_findRow_25] at h
    cases h
  | succ fu ih =>
    intro mo x1 x2 h
    rw [fX11_findRow_25] at h
    refine u_iload_n (pc := 25) F dX11_findRow_25 2 rfl rfl ?_
    refine u_iconst (v := 3) (pc := 26) F dX11_findRow_26 (by decide) ?_
    refine u_icmp_gt (pc := 27) F 100 dX11_findRow_27 (by decide) (fun c6 => ?_) (fun c6 => ?_)
    · rw [if_neg c6] at h
      have h1 := Option.some.inj h
      subst h1
      exact hR _ _ dX11_findRow_100
    · rw [if_pos c6] at h
      refine u_aload_n (pc := 30) F dX11_findRow_30 0 rfl rfl ?_
      refine u_get1 (pc := 31) F dX11_findRow_31 (hL 11 0 0 (by decide) rfl) ck_11 fl_11_298 rfl (by decide) ?_
      refine u_if_ge (pc := 34) F 100 dX11_findRow_34 (by decide) (fun c7 => ?_) (fun c7 => ?_)
      · rw [if_neg c7] at h
        have h1 := Option.some.inj h
        subst h1
        exact hR _ _ dX11_findRow_100
      · rw [if_pos c7] at h
        refine u_iload_n (pc := 37) F dX11_findRow_37 1 rfl rfl ?_
        refine u_aload_n (pc := 38) F dX11_findRow_38 0 rfl rfl ?_
        refine u_getA (pc := 39) F dX11_findRow_39 (hL 11 0 0 (by decide) rfl) ck_11 fl_11_34 rfl (by decide) (by decide) ?_
        refine u_bipush (v := 16) (pc := 42) F dX11_findRow_42 (by decide) ?_
        obtain ⟨b8, h⟩ := d_ab_some h
        refine u_aldI1 (pc := 44) F dX11_findRow_44 (hL 11 0 14 (by decide) rfl) rfl b8 ?_
        refine u_imul (pc := 45) F dX11_findRow_45 ?_
        obtain ⟨v9, hv9, h⟩ := d_lt_some h
        refine u_topi hv9 ?_
        refine u_istore_n (lv' := [(1, .int v9), (0, .ref (adr G (11, 0, 0))), (2, .int x2)]) (pc := 46) F dX11_findRow_46 rfl hY (by decide) rfl ?_
        refine u_iconst (v := 0) (pc := 47) F dX11_findRow_47 (by decide) ?_
        refine u_istore_n (lv' := [(3, .int (0 : Int32)), (1, .int v9), (0, .ref (adr G (11, 0, 0))), (2, .int x2)]) (pc := 48) F dX11_findRow_48 rfl hY (by decide) rfl ?_
        obtain ⟨q18, hq18, h⟩ := d_bd_some h
        refine u_lv (lv' := [(0, .ref (adr G (11, 0, 0))), (1, .int v9), (2, .int x2), (3, .int (0 : Int32))]) [2, 1, 3, 0] rfl ?_
        refine wX11_findRow_49 Y G hL σ F hY 1000 mo v9 x2 (0 : Int32) q18.1 q18.2.1 q18.2.2 hq18 ?_
        obtain ⟨v19, hv19, h⟩ := d_lt_some h
        refine u_iinc (lv' := [(2, .int v19), (0, .ref (adr G (11, 0, 0))), (1, .int q18.1)]) (pc := 94) F dX11_findRow_94 2 rfl hv19.symm hY (by decide) rfl ?_
        refine u_goto (pc := 97) F 25 dX11_findRow_97 (by decide) ?_
        refine u_lv (lv' := [(0, .ref (adr G (11, 0, 0))), (1, .int q18.1), (2, .int v19)]) [1, 2, 0] rfl ?_
        exact ih (q18.2.2) q18.1 v19 h
set_option maxHeartbeats 4000000 in
set_option maxRecDepth 100000 in
theorem c_X11_findRow (G : G0) (hL : Im G) (σ : Mem) (mo : Grp) (e_mo : σ 11 0 = mo) (mo' : Grp) (h : fX11_findRow mo = some mo') :
    CV G yX11_findRow cX11_findRow 5 6 [.ref (adr G (11, 0, 0))] σ (upM σ 11 0 (mo')) := by
  refine CV.of (by decide +kernel) (Nat.le_of_ble_eq_true rfl) (fun Y hY F hR => ?_)
  unfold fX11_findRow at h
  have F : Fx Y G cX11_findRow RX11 6 := F
  refine u_mem (σ2 := (upM σ 11 0 mo)) (by rw [← e_mo]; simp only [upM_self]) ?_
  refine u_lv (lv' := [(0, .ref (adr G (11, 0, 0)))]) [0] rfl ?_
  refine u_aload_n (pc := 0) F dX11_findRow_0 0 rfl rfl ?_
  refine u_aload_n (pc := 1) F dX11_findRow_1 0 rfl rfl ?_
  obtain ⟨q1, hq1, h⟩ := d_bd_some h
  refine u_calli (pc := 2) F (As := []) (c_X11_inReach G hL (upM σ 11 0 mo) mo (upM_same _ _ _ _) q1 hq1) yv_X11_inReach ml_11_295 (hL 11 0 0 (by decide) rfl) rfl (by decide) rfl rfl (Nat.le_of_ble_eq_true rfl) dX11_findRow_2 ?_
  obtain ⟨v2, hv2, h⟩ := d_lt_some h
  suffices hj : U Y G (upM σ 11 0 mo) 13 [(0, .ref (adr G (11, 0, 0)))] [.int v2, .ref (adr G (11, 0, 0))] by
    refine u_if_ne (pc := 5) F 12 dX11_findRow_5 (by decide) (fun c3 => ?_) (fun c3 => ?_)
    · rw [if_neg c3] at hv2
      refine u_iconst (v := -1) (pc := 12) F dX11_findRow_12 (by decide) ?_
      exact u_topi hv2 hj
    · rw [if_pos c3] at hv2
      refine u_iconst (v := 0) (pc := 8) F dX11_findRow_8 (by decide) ?_
      refine u_goto (pc := 9) F 13 dX11_findRow_9 (by decide) ?_
      exact u_topi hv2 hj
  refine u_put1 (pc := 13) F dX11_findRow_13 (hL 11 0 0 (by decide) rfl) ck_11 fl_11_298 rfl (by decide) rfl (ty0 := .int) (by decide +kernel) rfl rfl ?_
  obtain ⟨g4, hg4, h⟩ := d_lt_some h
  refine u_mem (σ2 := (upM σ 11 0 g4)) (by rw [hg4]) ?_
  refine u_aload_n (pc := 16) F dX11_findRow_16 0 rfl rfl ?_
  refine u_iconst (v := 0) (pc := 17) F dX11_findRow_17 (by decide) ?_
  refine u_put1 (pc := 18) F dX11_findRow_18 (hL 11 0 0 (by decide) rfl) ck_11 fl_11_301 rfl (by decide) rfl (ty0 := .int) (by decide +kernel) rfl rfl ?_
  obtain ⟨g5, hg5, h⟩ := d_lt_some h
  refine u_mem (σ2 := (upM σ 11 0 g5)) (by rw [hg5]) ?_
  refine u_iconst (v := 1) (pc := 21) F dX11_findRow_21 (by decide) ?_
  refine u_istore_n (lv' := [(1, .int (1 : Int32)), (0, .ref (adr G (11, 0, 0)))]) (pc := 22) F dX11_findRow_22 rfl hY (by decide) rfl ?_
  refine u_iconst (v := 1) (pc := 23) F dX11_findRow_23 (by decide) ?_
  refine u_istore_n (lv' := [(2, .int (1 : Int32)), (1, .int (1 : Int32)), (0, .ref (adr G (11, 0, 0)))]) (pc := 24) F dX11_findRow_24 rfl hY (by decide) rfl ?_
  refine u_lv (lv' := [(0, .ref (adr G (11, 0, 0))), (1, .int (1 : Int32)), (2, .int (1 : Int32))]) [2, 1, 0] rfl ?_
  exact wX11_findRow_25 Y G hL σ F hY mo' hR 1000 g5 (1 : Int32) (1 : Int32) h
/- RollingCodesModel.row -/
def fX11_row_25  (mo : Grp) (x1 : Int32) : Option (Int32 × Grp) :=
    if x1 = (-1 : Int32) then (some (mo 0 35, mo)) else (some ((-1 : Int32), mo))
def fX11_row_51  : Nat → Grp → Int32 → Int32 → Int32 → Option (Int32 × Grp)
  | 0, _, _, _, _ => none
  | fu + 1, mo, x1, x2, x3 =>
    if x3 ≤ x1 then (d_ab (16 : Int32) 59 <| d_nz (mo 14 (16 : Int32).toNatClampNeg) <| some (jrem x2 (mo 14 (16 : Int32).toNatClampNeg), mo)) else (d_ab (16 : Int32) 59 <| d_nz (mo 14 (16 : Int32).toNatClampNeg) <| d_lt (x2 / (mo 14 (16 : Int32).toNatClampNeg)) fun v13 => d_lt (x3 + (-1 : Int32)) fun v14 => fX11_row_51 fu mo x1 v13 v14)
def fX11_row (mo : Grp) (x1 : Int32) : Option (Int32 × Grp) :=
    d_bd (fX11_findRow mo) fun q1 => if x1 = (-1 : Int32) then (fX11_row_25 q1 x1) else (d_bd (fX11_in (x1.toInt64) (0 : Int64) (((q1 0 35) - (1 : Int32)).toInt64)) fun q4 => if q4 = 0 then (fX11_row_25 q1 x1) else (d_lt (q1 0 36) fun v6 => d_lt ((q1 0 35) - (1 : Int32)) fun v7 => fX11_row_51 1000 q1 x1 v6 v7))
set_option maxHeartbeats 4000000 in
set_option maxRecDepth 100000 in
theorem wX11_row_25 (Y : Dy) (G : G0) (hL : Im G) (σ : Mem) (F : Fx Y G cX11_row RX11 7) (hY : Y.2.2.2.2.2.2.2.2.2.2.2.1 = 4) (r : Int32) (mo' : Grp) (hR : ∀ (pc : Nat) (lv : List (Nat × Value)), narrow .int (.int r) = .int r → decode cX11_row pc = .ok (.ireturn, 1) → U Y G (upM σ 11 0 (mo')) pc lv [.int r]) :
    ∀ (mo : Grp) (x1 : Int32), fX11_row_25 mo x1 = some (r, mo') → U Y G (upM σ 11 0 mo) 25 [(0, .ref (adr G (11, 0, 0))), (1, .int x1)] [] := by
  intro mo x1 h
  unfold fX11_row_25 at h
  refine u_iload_n (pc := 25) F dX11_row_25 1 rfl rfl ?_
  refine u_iconst (v := -1) (pc := 26) F dX11_row_26 (by decide) ?_
  refine u_icmp_ne (pc := 27) F 37 dX11_row_27 (by decide) (fun c3 => ?_) (fun c3 => ?_)
  · rw [if_neg c3] at h
    refine u_iconst (v := -1) (pc := 37) F dX11_row_37 (by decide) ?_
    have h1 := Option.some.inj h
    obtain ⟨hj0, hr0⟩ := Prod.mk.inj h1
    subst hj0
    subst hr0
    exact hR _ _ rfl dX11_row_38
  · rw [if_pos c3] at h
    refine u_aload_n (pc := 30) F dX11_row_30 0 rfl rfl ?_
    refine u_get1 (pc := 31) F dX11_row_31 (hL 11 0 0 (by decide) rfl) ck_11 fl_11_298 rfl (by decide) ?_
    refine u_goto (pc := 34) F 38 dX11_row_34 (by decide) ?_
    have h1 := Option.some.inj h
    obtain ⟨hj0, hr0⟩ := Prod.mk.inj h1
    subst hj0
    subst hr0
    exact hR _ _ rfl dX11_row_38
set_option maxHeartbeats 4000000 in
set_option maxRecDepth 100000 in
theorem wX11_row_51 (Y : Dy) (G : G0) (hL : Im G) (σ : Mem) (F : Fx Y G cX11_row RX11 7) (hY : Y.2.2.2.2.2.2.2.2.2.2.2.1 = 4) (r : Int32) (mo' : Grp) (hR : ∀ (pc : Nat) (lv : List (Nat × Value)), narrow .int (.int r) = .int r → decode cX11_row pc = .ok (.ireturn, 1) → U Y G (upM σ 11 0 (mo')) pc lv [.int r]) :
    ∀ (fu : Nat) (mo : Grp) (x1 : Int32) (x2 : Int32) (x3 : Int32), fX11_row_51 fu mo x1 x2 x3 = some (r, mo') → U Y G (upM σ 11 0 mo) 51 [(0, .ref (adr G (11, 0, 0))), (1, .int x1), (2, .int x2), (3, .int x3)] [] := by
  intro fu
  induction fu with
  | zero =>
    intro mo x1 x2 x3 h
    rw [fX11_row_51] at h
    cases h
  | succ fu ih =>
    intro mo x1 x2 x3 h
    rw [fX11_row_51] at h
    refine u_iload_n (pc := 51) F dX11_row_51 3 rfl rfl ?_
    refine u_iload_n (pc := 52) F dX11_row_52 1 rfl rfl ?_
    refine u_icmp_le (pc := 53) F 72 dX11_row_53 (by decide) (fun c8 => ?_) (fun c8 => ?_)
    · rw [if_pos c8] at h
      refine u_iload_n (pc := 72) F dX11_row_72 2 rfl rfl ?_
      refine u_aload_n (pc := 73) F dX11_row_73 0 rfl rfl ?_
      refine u_getA (pc := 74) F dX11_row_74 (hL 11 0 0 (by decide) rfl) ck_11 fl_11_34 rfl (by decide) (by decide) ?_
      refine u_bipush (v := 16) (pc := 77) F dX11_row_77 (by decide) ?_
      obtain ⟨b9, h⟩ := d_ab_some h
      refine u_aldI1 (pc := 79) F dX11_row_79 (hL 11 0 14 (by decide) rfl) rfl b9 ?_
      obtain ⟨c10, h⟩ := d_nz_some h
      refine u_irem (pc := 80) F dX11_row_80 c10 ?_
      have h1 := Option.some.inj h
      obtain ⟨hj0, hr0⟩ := Prod.mk.inj h1
      subst hj0
      subst hr0
      exact hR _ _ rfl dX11_row_81
    · rw [if_neg c8] at h
      refine u_iload_n (pc := 56) F dX11_row_56 2 rfl rfl ?_
      refine u_aload_n (pc := 57) F dX11_row_57 0 rfl rfl ?_
      refine u_getA (pc := 58) F dX11_row_58 (hL 11 0 0 (by decide) rfl) ck_11 fl_11_34 rfl (by decide) (by decide) ?_
      refine u_bipush (v := 16) (pc := 61) F dX11_row_61 (by decide) ?_
      obtain ⟨b11, h⟩ := d_ab_some h
      refine u_aldI1 (pc := 63) F dX11_row_63 (hL 11 0 14 (by decide) rfl) rfl b11 ?_
      obtain ⟨c12, h⟩ := d_nz_some h
      refine u_idiv (pc := 64) F dX11_row_64 c12 ?_
      obtain ⟨v13, hv13, h⟩ := d_lt_some h
      refine u_topi hv13 ?_
      refine u_istore_n (lv' := [(2, .int v13), (0, .ref (adr G (11, 0, 0))), (1, .int x1), (3, .int x3)]) (pc := 65) F dX11_row_65 rfl hY (by decide) rfl ?_
      obtain ⟨v14, hv14, h⟩ := d_lt_some h
      refine u_iinc (lv' := [(3, .int v14), (2, .int v13), (0, .ref (adr G (11, 0, 0))), (1, .int x1)]) (pc := 66) F dX11_row_66 3 rfl hv14.symm hY (by decide) rfl ?_
      refine u_goto (pc := 69) F 51 dX11_row_69 (by decide) ?_
      refine u_lv (lv' := [(0, .ref (adr G (11, 0, 0))), (1, .int x1), (2, .int v13), (3, .int v14)]) [2, 3, 1, 0] rfl ?_
      exact ih mo x1 v13 v14 h
set_option maxHeartbeats 4000000 in
set_option maxRecDepth 100000 in
theorem c_X11_row (G : G0) (hL : Im G) (x1 : Int32) (σ : Mem) (mo : Grp) (e_mo : σ 11 0 = mo) (r : Int32) (mo' : Grp) (h : fX11_row mo x1 = some (r, mo')) :
    CI G yX11_row cX11_row 4 .int 7 [.ref (adr G (11, 0, 0)), .int x1] σ r (upM σ 11 0 (mo')) := by
  refine CI.of (by decide +kernel) (Nat.le_of_ble_eq_true rfl) (fun Y hY F hR => ?_)
  unfold fX11_row at h
  have F : Fx Y G cX11_row RX11 7 := F
  refine u_mem (σ2 := (upM σ 11 0 mo)) (by rw [← e_mo]; simp only [upM_self]) ?_
  refine u_lv (lv' := [(0, .ref (adr G (11, 0, 0))), (1, .int x1)]) [0, 1] rfl ?_
  refine u_aload_n (pc := 0) F dX11_row_0 0 rfl rfl ?_
  obtain ⟨q1, hq1, h⟩ := d_bd_some h
  refine u_callv (pc := 1) F (As := []) (c_X11_findRow G hL (upM σ 11 0 mo) mo (upM_same _ _ _ _) q1 hq1) yv_X11_findRow ml_11_307 (hL 11 0 0 (by decide) rfl) rfl (by decide) rfl rfl (Nat.le_of_ble_eq_true rfl) dX11_row_1 ?_
  refine u_mem (σ2 := (upM σ 11 0 q1)) (by first | (rw [upM_upM]; done) | (rw [upM_mid _ _ _ _ (by decide)]; done) | (rw [upM_mid _ _ _ _ (by decide), upM_upM]; done) | (rw [upM_mid _ _ _ _ (by decide), upM_mid _ _ _ _ (by decide)]; done)) ?_
  refine u_iload_n (pc := 4) F dX11_row_4 1 rfl rfl ?_
  refine u_iconst (v := -1) (pc := 5) F dX11_row_5 (by decide) ?_
  refine u_icmp_eq (pc := 6) F 25 dX11_row_6 (by decide) (fun c2 => ?_) (fun c2 => ?_)
  · rw [if_pos c2] at h
    exact wX11_row_25 Y G hL σ F hY r mo' hR q1 x1 h
  · rw [if_neg c2] at h
    refine u_iload_n (pc := 9) F dX11_row_9 1 rfl rfl ?_
    refine u_i2l (pc := 10) F dX11_row_10 ?_
    refine u_lconst (v := 0) (pc := 11) F dX11_row_11 (by decide) ?_
    refine u_aload_n (pc := 12) F dX11_row_12 0 rfl rfl ?_
    refine u_get1 (pc := 13) F dX11_row_13 (hL 11 0 0 (by decide) rfl) ck_11 fl_11_298 rfl (by decide) ?_
    refine u_iconst (v := 1) (pc := 16) F dX11_row_16 (by decide) ?_
    refine u_isub (pc := 17) F dX11_row_17 ?_
    refine u_i2l (pc := 18) F dX11_row_18 ?_
    obtain ⟨q4, hq4, h⟩ := d_bd_some h
    refine u_callSi (pc := 19) F (As := [.long (x1.toInt64), .long (0 : Int64), .long (((q1 0 35) - (1 : Int32)).toInt64)]) (c_X11_in G hL (x1.toInt64) (0 : Int64) (((q1 0 35) - (1 : Int32)).toInt64) (upM σ 11 0 q1) q4 hq4) ys_X11_in ml_11_105 (by decide) rfl rfl (Nat.le_of_ble_eq_true rfl) dX11_row_19 ?_
    refine u_if_ne (pc := 22) F 39 dX11_row_22 (by decide) (fun c5 => ?_) (fun c5 => ?_)
    · rw [if_neg c5] at h
      refine u_aload_n (pc := 39) F dX11_row_39 0 rfl rfl ?_
      refine u_get1 (pc := 40) F dX11_row_40 (hL 11 0 0 (by decide) rfl) ck_11 fl_11_301 rfl (by decide) ?_
      obtain ⟨v6, hv6, h⟩ := d_lt_some h
      refine u_topi hv6 ?_
      refine u_istore_n (lv' := [(2, .int v6), (0, .ref (adr G (11, 0, 0))), (1, .int x1)]) (pc := 43) F dX11_row_43 rfl hY (by decide) rfl ?_
      refine u_aload_n (pc := 44) F dX11_row_44 1 rfl rfl ?_
      refine u_get1 (pc := 45) F dX11_row_45 (hL 11 0 0 (by decide) rfl) ck_11 fl_11_298 rfl (by decide) ?_
      refine u_iconst (v := 1) (pc := 48) F dX11_row_48 (by decide) ?_
      refine u_isub (pc := 49) F dX11_row_49 ?_
      obtain ⟨v7, hv7, h⟩ := d_lt_some h
      refine u_topi hv7 ?_
      refine u_istore_n (lv' := [(3, .int v7), (2, .int v6), (0, .ref (adr G (11, 0, 0))), (1, .int x1)]) (pc := 50) F dX11_row_50 rfl hY (by decide) rfl ?_
      refine u_lv (lv' := [(0, .ref (adr G (11, 0, 0))), (1, .int x1), (2, .int v6), (3, .int v7)]) [2, 3, 1, 0] rfl ?_
      exact wX11_row_51 Y G hL σ F hY r mo' hR 1000 q1 x1 v6 v7 h
    · rw [if_pos c5] at h
      exact wX11_row_25 Y G hL σ F hY r mo' hR q1 x1 h
/- RollingCodesModel.couldSend -/
def fX11_couldSend_40 (mo : Grp) : Nat → Int32 → Int32 → Int32 → Int32 → Option (Int32)
  | 0, _, _, _, _ => none
  | fu + 1, x1, x2, x3, x4 =>
    if x4 ≤ (40 : Int32) then (d_ab x1 5 <| if (mo 9 x1.toNatClampNeg) = (3 : Int32) then (d_zb x3 <| some x3) else (if x3 = 0 then (d_ab x1 5 <| d_ab ((5 : Int32) + x1) 59 <| d_bd (fX11_codeOf (mo 12 x1.toNatClampNeg) (jrem ((mo 14 ((5 : Int32) + x1).toNatClampNeg) + x4) (10000 : Int32))) fun q12 => if q12 = x2 then (d_lt (x4 + (1 : Int32)) fun v15 => fX11_couldSend_40 mo fu x1 x2 (1 : Int32) v15) else (d_lt (x4 + (1 : Int32)) fun v14 => fX11_couldSend_40 mo fu x1 x2 (0 : Int32) v14)) else (d_lt (x4 + (1 : Int32)) fun v9 => fX11_couldSend_40 mo fu x1 x2 (1 : Int32) v9))) else (d_zb x3 <| some x3)
def fX11_couldSend_36 (mo : Grp)  (x1 : Int32) (x2 : Int32) (s0 : Int32) : Option (Int32) :=
    fX11_couldSend_40 mo 1000 x1 x2 s0 (1 : Int32)
def fX11_couldSend_35 (mo : Grp)  (x1 : Int32) (x2 : Int32) : Option (Int32) :=
    fX11_couldSend_36 mo x1 x2 (0 : Int32)
def fX11_couldSend (mo : Grp) (x1 : Int32) (x2 : Int32) : Option (Int32) :=
    d_ab x1 5 <| if (mo 9 x1.toNatClampNeg) = (3 : Int32) then (d_ab x1 5 <| d_ab ((5 : Int32) + x1) 59 <| d_bd (fX11_codeOf (mo 12 x1.toNatClampNeg) (mo 14 ((5 : Int32) + x1).toNatClampNeg)) fun q18 => if q18 = x2 then (fX11_couldSend_36 mo x1 x2 (1 : Int32)) else (fX11_couldSend_35 mo x1 x2)) else (fX11_couldSend_35 mo x1 x2)
set_option maxHeartbeats 4000000 in
set_option maxRecDepth 100000 in
theorem wX11_couldSend_40 (Y : Dy) (G : G0) (hL : Im G) (σ : Mem) (mo : Grp) (e_mo : σ 11 0 = mo) (F : Fx Y G cX11_couldSend RX11 2) (hY : Y.2.2.2.2.2.2.2.2.2.2.2.1 = 5) (r : Int32) (hR : ∀ (pc : Nat) (lv : List (Nat × Value)), narrow .boolean (.int r) = .int r → decode cX11_couldSend pc = .ok (.ireturn, 1) → U Y G σ pc lv [.int r]) :
    ∀ (fu : Nat) (x1 : Int32) (x2 : Int32) (x3 : Int32) (x4 : Int32), fX11_couldSend_40 mo fu x1 x2 x3 x4 = some r → U Y G σ 40 [(0, .ref (adr G (11, 0, 0))), (1, .int x1), (2, .int x2), (3, .int x3), (4, .int x4)] [] := by
  intro fu
  induction fu with
  | zero =>
    intro x1 x2 x3 x4 h
    rw [fX11_couldSend_40] at h
    cases h
  | succ fu ih =>
    intro x1 x2 x3 x4 h
    rw [fX11_couldSend_40] at h
    refine u_iload (pc := 40) F dX11_couldSend_40 4 rfl ?_
    refine u_bipush (v := 40) (pc := 42) F dX11_couldSend_42 (by decide) ?_
    refine u_icmp_gt (pc := 44) F 101 dX11_couldSend_44 (by decide) (fun c3 => ?_) (fun c3 => ?_)
    · rw [if_neg c3] at h
      refine u_iload_n (pc := 101) F dX11_couldSend_101 3 rfl rfl ?_
      obtain ⟨c4, h⟩ := d_zb_some h
      have h1 := Option.some.inj h
      subst h1
      exact hR _ _ (nar_zb c4) dX11_couldSend_102
    · rw [if_pos c3] at h
      refine u_aload_n (pc := 47) F dX11_couldSend_47 0 rfl rfl ?_
      refine u_getA (pc := 48) F dX11_couldSend_48 (hL 11 0 0 (by decide) rfl) ck_11 fl_11_19 rfl (by decide) (by decide) ?_
      refine u_iload_n (pc := 51) F dX11_couldSend_51 1 rfl rfl ?_
      obtain ⟨b5, h⟩ := d_ab_some h
      refine u_aldI (v := mo 9 x1.toNatClampNeg) (pc := 52) F dX11_couldSend_52 (hL 11 0 9 (by decide) rfl) rfl b5 (congrFun (congrFun (show σ 11 0 = mo from e_mo) 9) _) ?_
      refine u_iconst (v := 3) (pc := 53) F dX11_couldSend_53 (by decide) ?_
      refine u_icmp_eq (pc := 54) F 101 dX11_couldSend_54 (by decide) (fun c6 => ?_) (fun c6 => ?_)
      · rw [if_pos c6] at h
        refine u_iload_n (pc := 101) F dX11_couldSend_101 3 rfl rfl ?_
        obtain ⟨c7, h⟩ := d_zb_some h
        have h1 := Option.some.inj h
        subst h1
        exact hR _ _ (nar_zb c7) dX11_couldSend_102
      · rw [if_neg c6] at h
        refine u_iload_n (pc := 57) F dX11_couldSend_57 3 rfl rfl ?_
        refine u_if_ne (pc := 58) F 89 dX11_couldSend_58 (by decide) (fun c8 => ?_) (fun c8 => ?_)
        · rw [if_neg c8] at h
          refine u_iconst (v := 1) (pc := 89) F dX11_couldSend_89 (by decide) ?_
          refine u_goto (pc := 90) F 94 dX11_couldSend_90 (by decide) ?_
          refine u_istore_n (lv' := [(3, .int (1 : Int32)), (0, .ref (adr G (11, 0, 0))), (1, .int x1), (2, .int x2), (4, .int x4)]) (pc := 94) F dX11_couldSend_94 rfl hY (by decide) rfl ?_
          obtain ⟨v9, hv9, h⟩ := d_lt_some h
          refine u_iinc (lv' := [(4, .int v9), (3, .int (1 : Int32)), (0, .ref (adr G (11, 0, 0))), (1, .int x1), (2, .int x2)]) (pc := 95) F dX11_couldSend_95 4 rfl hv9.symm hY (by decide) rfl ?_
          refine u_goto (pc := 98) F 40 dX11_couldSend_98 (by decide) ?_
          refine u_lv (lv' := [(0, .ref (adr G (11, 0, 0))), (1, .int x1), (2, .int x2), (3, .int (1 : Int32)), (4, .int v9)]) [2, 3, 4, 1, 0] rfl ?_
          exact ih x1 x2 (1 : Int32) v9 h
        · rw [if_pos c8] at h
          refine u_aload_n (pc := 61) F dX11_couldSend_61 0 rfl rfl ?_
          refine u_getA (pc := 62) F dX11_couldSend_62 (hL 11 0 0 (by decide) rfl) ck_11 fl_11_28 rfl (by decide) (by decide) ?_
          refine u_iload_n (pc := 65) F dX11_couldSend_65 1 rfl rfl ?_
          obtain ⟨b10, h⟩ := d_ab_some h
          refine u_aldI (v := mo 12 x1.toNatClampNeg) (pc := 66) F dX11_couldSend_66 (hL 11 0 12 (by decide) rfl) rfl b10 (congrFun (congrFun (show σ 11 0 = mo from e_mo) 12) _) ?_
          refine u_aload_n (pc := 67) F dX11_couldSend_67 0 rfl rfl ?_
          refine u_getA (pc := 68) F dX11_couldSend_68 (hL 11 0 0 (by decide) rfl) ck_11 fl_11_34 rfl (by decide) (by decide) ?_
          refine u_iconst (v := 5) (pc := 71) F dX11_couldSend_71 (by decide) ?_
          refine u_iload_n (pc := 72) F dX11_couldSend_72 1 rfl rfl ?_
          refine u_iadd (pc := 73) F dX11_couldSend_73 ?_
          obtain ⟨b11, h⟩ := d_ab_some h
          refine u_aldI (v := mo 14 ((5 : Int32) + x1).toNatClampNeg) (pc := 74) F dX11_couldSend_74 (hL 11 0 14 (by decide) rfl) rfl b11 (congrFun (congrFun (show σ 11 0 = mo from e_mo) 14) _) ?_
          refine u_iload (pc := 75) F dX11_couldSend_75 4 rfl ?_
          refine u_iadd (pc := 77) F dX11_couldSend_77 ?_
          refine u_sipush (v := 10000) (pc := 78) F dX11_couldSend_78 (by decide) ?_
          refine u_irem (pc := 81) F dX11_couldSend_81 (by decide) ?_
          obtain ⟨q12, hq12, h⟩ := d_bd_some h
          refine u_callSi (pc := 82) F (As := [.int (mo 12 x1.toNatClampNeg), .int (jrem ((mo 14 ((5 : Int32) + x1).toNatClampNeg) + x4) (10000 : Int32))]) (c_X11_codeOf G hL (mo 12 x1.toNatClampNeg) (jrem ((mo 14 ((5 : Int32) + x1).toNatClampNeg) + x4) (10000 : Int32)) σ q12 hq12) ys_X11_codeOf ml_11_193 (by decide) rfl rfl (Nat.le_of_ble_eq_true rfl) dX11_couldSend_82 ?_
          refine u_iload_n (pc := 85) F dX11_couldSend_85 2 rfl rfl ?_
          refine u_icmp_ne (pc := 86) F 93 dX11_couldSend_86 (by decide) (fun c13 => ?_) (fun c13 => ?_)
          · rw [if_neg c13] at h
            refine u_iconst (v := 0) (pc := 93) F dX11_couldSend_93 (by decide) ?_
            refine u_istore_n (lv' := [(3, .int (0 : Int32)), (0, .ref (adr G (11, 0, 0))), (1, .int x1), (2, .int x2), (4, .int x4)]) (pc := 94) F dX11_couldSend_94 rfl hY (by decide) rfl ?_
            obtain ⟨v14, hv14, h⟩ := d_lt_some h
            refine u_iinc (lv' := [(4, .int v14), (3, .int (0 : Int32)), (0, .ref (adr G (11, 0, 0))), (1, .int x1), (2, .int x2)]) (pc := 95) F dX11_couldSend_95 4 rfl hv14.symm hY (by decide) rfl ?_
            refine u_goto (pc := 98) F 40 dX11_couldSend_98 (by decide) ?_
            refine u_lv (lv' := [(0, .ref (adr G (11, 0, 0))), (1, .int x1), (2, .int x2), (3, .int (0 : Int32)), (4, .int v14)]) [2, 3, 4, 1, 0] rfl ?_
            exact ih x1 x2 (0 : Int32) v14 h
          · rw [if_pos c13] at h
            refine u_iconst (v := 1) (pc := 89) F dX11_couldSend_89 (by decide) ?_
            refine u_goto (pc := 90) F 94 dX11_couldSend_90 (by decide) ?_
            refine u_istore_n (lv' := [(3, .int (1 : Int32)), (0, .ref (adr G (11, 0, 0))), (1, .int x1), (2, .int x2), (4, .int x4)]) (pc := 94) F dX11_couldSend_94 rfl hY (by decide) rfl ?_
            obtain ⟨v15, hv15, h⟩ := d_lt_some h
            refine u_iinc (lv' := [(4, .int v15), (3, .int (1 : Int32)), (0, .ref (adr G (11, 0, 0))), (1, .int x1), (2, .int x2)]) (pc := 95) F dX11_couldSend_95 4 rfl hv15.symm hY (by decide) rfl ?_
            refine u_goto (pc := 98) F 40 dX11_couldSend_98 (by decide) ?_
            refine u_lv (lv' := [(0, .ref (adr G (11, 0, 0))), (1, .int x1), (2, .int x2), (3, .int (1 : Int32)), (4, .int v15)]) [2, 3, 4, 1, 0] rfl ?_
            exact ih x1 x2 (1 : Int32) v15 h
set_option maxHeartbeats 4000000 in
set_option maxRecDepth 100000 in
theorem wX11_couldSend_36 (Y : Dy) (G : G0) (hL : Im G) (σ : Mem) (mo : Grp) (e_mo : σ 11 0 = mo) (F : Fx Y G cX11_couldSend RX11 2) (hY : Y.2.2.2.2.2.2.2.2.2.2.2.1 = 5) (r : Int32) (hR : ∀ (pc : Nat) (lv : List (Nat × Value)), narrow .boolean (.int r) = .int r → decode cX11_couldSend pc = .ok (.ireturn, 1) → U Y G σ pc lv [.int r]) :
    ∀ (x1 : Int32) (x2 : Int32) (s0 : Int32), fX11_couldSend_36 mo x1 x2 s0 = some r → U Y G σ 36 [(0, .ref (adr G (11, 0, 0))), (1, .int x1), (2, .int x2)] [.int s0] := by
  intro x1 x2 s0 h
  unfold fX11_couldSend_36 at h
  refine u_istore_n (lv' := [(3, .int s0), (0, .ref (adr G (11, 0, 0))), (1, .int x1), (2, .int x2)]) (pc := 36) F dX11_couldSend_36 rfl hY (by decide) rfl ?_
  refine u_iconst (v := 1) (pc := 37) F dX11_couldSend_37 (by decide) ?_
  refine u_istore (lv' := [(4, .int (1 : Int32)), (3, .int s0), (0, .ref (adr G (11, 0, 0))), (1, .int x1), (2, .int x2)]) (pc := 38) F dX11_couldSend_38 hY (by decide) rfl ?_
  refine u_lv (lv' := [(0, .ref (adr G (11, 0, 0))), (1, .int x1), (2, .int x2), (3, .int s0), (4, .int (1 : Int32))]) [2, 3, 4, 1, 0] rfl ?_
  exact wX11_couldSend_40 Y G hL σ mo e_mo F hY r hR 1000 x1 x2 s0 (1 : Int32) h
set_option maxHeartbeats 4000000 in
set_option maxRecDepth 100000 in
theorem wX11_couldSend_35 (Y : Dy) (G : G0) (hL : Im G) (σ : Mem) (mo : Grp) (e_mo : σ 11 0 = mo) (F : Fx Y G cX11_couldSend RX11 2) (hY : Y.2.2.2.2.2.2.2.2.2.2.2.1 = 5) (r : Int32) (hR : ∀ (pc : Nat) (lv : List (Nat × Value)), narrow .boolean (.int r) = .int r → decode cX11_couldSend pc = .ok (.ireturn, 1) → U Y G σ pc lv [.int r]) :
    ∀ (x1 : Int32) (x2 : Int32), fX11_couldSend_35 mo x1 x2 = some r → U Y G σ 35 [(0, .ref (adr G (11, 0, 0))), (1, .int x1), (2, .int x2)] [] := by
  intro x1 x2 h
  unfold fX11_couldSend_35 at h
  refine u_iconst (v := 0) (pc := 35) F dX11_couldSend_35 (by decide) ?_
  exact wX11_couldSend_36 Y G hL σ mo e_mo F hY r hR x1 x2 (0 : Int32) h
set_option maxHeartbeats 4000000 in
set_option maxRecDepth 100000 in
theorem c_X11_couldSend (G : G0) (hL : Im G) (x1 : Int32) (x2 : Int32) (σ : Mem) (mo : Grp) (e_mo : σ 11 0 = mo) (r : Int32) (h : fX11_couldSend mo x1 x2 = some r) :
    CI G yX11_couldSend cX11_couldSend 5 .boolean 2 [.ref (adr G (11, 0, 0)), .int x1, .int x2] σ r σ := by
  refine CI.of (by decide +kernel) (Nat.le_of_ble_eq_true rfl) (fun Y hY F hR => ?_)
  unfold fX11_couldSend at h
  have F : Fx Y G cX11_couldSend RX11 2 := F
  refine u_lv (lv' := [(0, .ref (adr G (11, 0, 0))), (1, .int x1), (2, .int x2)]) [0, 1, 2] rfl ?_
  refine u_aload_n (pc := 0) F dX11_couldSend_0 0 rfl rfl ?_
  refine u_getA (pc := 1) F dX11_couldSend_1 (hL 11 0 0 (by decide) rfl) ck_11 fl_11_19 rfl (by decide) (by decide) ?_
  refine u_iload_n (pc := 4) F dX11_couldSend_4 1 rfl rfl ?_
  obtain ⟨b1, h⟩ := d_ab_some h
  refine u_aldI (v := mo 9 x1.toNatClampNeg) (pc := 5) F dX11_couldSend_5 (hL 11 0 9 (by decide) rfl) rfl b1 (congrFun (congrFun (show σ 11 0 = mo from e_mo) 9) _) ?_
  refine u_iconst (v := 3) (pc := 6) F dX11_couldSend_6 (by decide) ?_
  refine u_icmp_ne (pc := 7) F 35 dX11_couldSend_7 (by decide) (fun c2 => ?_) (fun c2 => ?_)
  · rw [if_neg c2] at h
    exact wX11_couldSend_35 Y G hL σ mo e_mo F hY r hR x1 x2 h
  · rw [if_pos c2] at h
    refine u_aload_n (pc := 10) F dX11_couldSend_10 0 rfl rfl ?_
    refine u_getA (pc := 11) F dX11_couldSend_11 (hL 11 0 0 (by decide) rfl) ck_11 fl_11_28 rfl (by decide) (by decide) ?_
    refine u_iload_n (pc := 14) F dX11_couldSend_14 1 rfl rfl ?_
    obtain ⟨b16, h⟩ := d_ab_some h
    refine u_aldI (v := mo 12 x1.toNatClampNeg) (pc := 15) F dX11_couldSend_15 (hL 11 0 12 (by decide) rfl) rfl b16 (congrFun (congrFun (show σ 11 0 = mo from e_mo) 12) _) ?_
    refine u_aload_n (pc := 16) F dX11_couldSend_16 0 rfl rfl ?_
    refine u_getA (pc := 17) F dX11_couldSend_17 (hL 11 0 0 (by decide) rfl) ck_11 fl_11_34 rfl (by decide) (by decide) ?_
    refine u_iconst (v := 5) (pc := 20) F dX11_couldSend_20 (by decide) ?_
    refine u_iload_n (pc := 21) F dX11_couldSend_21 1 rfl rfl ?_
    refine u_iadd (pc := 22) F dX11_couldSend_22 ?_
    obtain ⟨b17, h⟩ := d_ab_some h
    refine u_aldI (v := mo 14 ((5 : Int32) + x1).toNatClampNeg) (pc := 23) F dX11_couldSend_23 (hL 11 0 14 (by decide) rfl) rfl b17 (congrFun (congrFun (show σ 11 0 = mo from e_mo) 14) _) ?_
    obtain ⟨q18, hq18, h⟩ := d_bd_some h
    refine u_callSi (pc := 24) F (As := [.int (mo 12 x1.toNatClampNeg), .int (mo 14 ((5 : Int32) + x1).toNatClampNeg)]) (c_X11_codeOf G hL (mo 12 x1.toNatClampNeg) (mo 14 ((5 : Int32) + x1).toNatClampNeg) σ q18 hq18) ys_X11_codeOf ml_11_193 (by decide) rfl rfl (Nat.le_of_ble_eq_true rfl) dX11_couldSend_24 ?_
    refine u_iload_n (pc := 27) F dX11_couldSend_27 2 rfl rfl ?_
    refine u_icmp_ne (pc := 28) F 35 dX11_couldSend_28 (by decide) (fun c19 => ?_) (fun c19 => ?_)
    · rw [if_neg c19] at h
      exact wX11_couldSend_35 Y G hL σ mo e_mo F hY r hR x1 x2 h
    · rw [if_pos c19] at h
      refine u_iconst (v := 1) (pc := 31) F dX11_couldSend_31 (by decide) ?_
      refine u_goto (pc := 32) F 36 dX11_couldSend_32 (by decide) ?_
      exact wX11_couldSend_36 Y G hL σ mo e_mo F hY r hR x1 x2 (1 : Int32) h
/- RollingCodesModel.who -/
def fX11_who_19 (mo : Grp) : Nat → Int32 → Int32 → Int32 → Option (Int32)
  | 0, _, _, _ => none
  | fu + 1, x1, x2, x3 =>
    if x3 < (mo 0 7) then (d_bd (fX11_couldSend mo x3 x1) fun q4 => if q4 = 0 then (d_lt (x2 ||| (0 : Int32)) fun v6 => d_lt (x3 + (1 : Int32)) fun v7 => fX11_who_19 mo fu x1 v6 v7) else (d_lt (x2 ||| ((1 : Int32) <<< (x3 &&& 31))) fun v8 => d_lt (x3 + (1 : Int32)) fun v9 => fX11_who_19 mo fu x1 v8 v9)) else (some x2)
def fX11_who (mo : Grp) (x1 : Int32) : Option (Int32) :=
    d_bd (fX11_in (x1.toInt64) (0 : Int64) (508 : Int64)) fun q1 => if q1 = 0 then (some (-1000000002 : Int32)) else (fX11_who_19 mo 1000 x1 (0 : Int32) (0 : Int32))
set_option maxHeartbeats 4000000 in
set_option maxRecDepth 100000 in
theorem wX11_who_19 (Y : Dy) (G : G0) (hL : Im G) (σ : Mem) (mo : Grp) (e_mo : σ 11 0 = mo) (F : Fx Y G cX11_who RX11 3) (hY : Y.2.2.2.2.2.2.2.2.2.2.2.1 = 4) (r : Int32) (hR : ∀ (pc : Nat) (lv : List (Nat × Value)), narrow .int (.int r) = .int r → decode cX11_who pc = .ok (.ireturn, 1) → U Y G σ pc lv [.int r]) :
    ∀ (fu : Nat) (x1 : Int32) (x2 : Int32) (x3 : Int32), fX11_who_19 mo fu x1 x2 x3 = some r → U Y G σ 19 [(0, .ref (adr G (11, 0, 0))), (1, .int x1), (2, .int x2), (3, .int x3)] [] := by
  intro fu
  induction fu with
  | zero =>
    intro x1 x2 x3 h
    rw [fX11_who_19] at h
    cases h
  | succ fu ih =>
    intro x1 x2 x3 h
    rw [fX11_who_19] at h
    refine u_iload_n (pc := 19) F dX11_who_19 3 rfl rfl ?_
    refine u_aload_n (pc := 20) F dX11_who_20 0 rfl rfl ?_
    refine u_get (v := mo 0 7) (pc := 21) F dX11_who_21 (hL 11 0 0 (by decide) rfl) ck_11 fl_11_102 rfl (by decide) (congrFun (congrFun (show σ 11 0 = mo from e_mo) 0) 7) ?_
    refine u_icmp_ge (pc := 24) F 52 dX11_who_24 (by decide) (fun c3 => ?_) (fun c3 => ?_)
    · rw [if_neg c3] at h
      refine u_iload_n (pc := 52) F dX11_who_52 2 rfl rfl ?_
      have h1 := Option.some.inj h
      subst h1
      exact hR _ _ rfl dX11_who_53
    · rw [if_pos c3] at h
      refine u_iload_n (pc := 27) F dX11_who_27 2 rfl rfl ?_
      refine u_aload_n (pc := 28) F dX11_who_28 0 rfl rfl ?_
      refine u_iload_n (pc := 29) F dX11_who_29 3 rfl rfl ?_
      refine u_iload_n (pc := 30) F dX11_who_30 1 rfl rfl ?_
      obtain ⟨q4, hq4, h⟩ := d_bd_some h
      refine u_calli (pc := 31) F (As := [.int x3, .int x1]) (c_X11_couldSend G hL x3 x1 σ mo ((show σ 11 0 = mo from e_mo)) q4 hq4) yv_X11_couldSend ml_11_312 (hL 11 0 0 (by decide) rfl) rfl (by decide) rfl rfl (Nat.le_of_ble_eq_true rfl) dX11_who_31 ?_
      refine u_if_eq (pc := 34) F 43 dX11_who_34 (by decide) (fun c5 => ?_) (fun c5 => ?_)
      · rw [if_pos c5] at h
        refine u_iconst (v := 0) (pc := 43) F dX11_who_43 (by decide) ?_
        refine u_ior (pc := 44) F dX11_who_44 ?_
        obtain ⟨v6, hv6, h⟩ := d_lt_some h
        refine u_topi hv6 ?_
        refine u_istore_n (lv' := [(2, .int v6), (0, .ref (adr G (11, 0, 0))), (1, .int x1), (3, .int x3)]) (pc := 45) F dX11_who_45 rfl hY (by decide) rfl ?_
        obtain ⟨v7, hv7, h⟩ := d_lt_some h
        refine u_iinc (lv' := [(3, .int v7), (2, .int v6), (0, .ref (adr G (11, 0, 0))), (1, .int x1)]) (pc := 46) F dX11_who_46 3 rfl hv7.symm hY (by decide) rfl ?_
        refine u_goto (pc := 49) F 19 dX11_who_49 (by decide) ?_
        refine u_lv (lv' := [(0, .ref (adr G (11, 0, 0))), (1, .int x1), (2, .int v6), (3, .int v7)]) [2, 3, 1, 0] rfl ?_
        exact ih x1 v6 v7 h
      · rw [if_neg c5] at h
        refine u_iconst (v := 1) (pc := 37) F dX11_who_37 (by decide) ?_
        refine u_iload_n (pc := 38) F dX11_who_38 3 rfl rfl ?_
        refine u_ishl (pc := 39) F dX11_who_39 ?_
        refine u_goto (pc := 40) F 44 dX11_who_40 (by decide) ?_
        refine u_ior (pc := 44) F dX11_who_44 ?_
        obtain ⟨v8, hv8, h⟩ := d_lt_some h
        refine u_topi hv8 ?_
        refine u_istore_n (lv' := [(2, .int v8), (0, .ref (adr G (11, 0, 0))), (1, .int x1), (3, .int x3)]) (pc := 45) F dX11_who_45 rfl hY (by decide) rfl ?_
        obtain ⟨v9, hv9, h⟩ := d_lt_some h
        refine u_iinc (lv' := [(3, .int v9), (2, .int v8), (0, .ref (adr G (11, 0, 0))), (1, .int x1)]) (pc := 46) F dX11_who_46 3 rfl hv9.symm hY (by decide) rfl ?_
        refine u_goto (pc := 49) F 19 dX11_who_49 (by decide) ?_
        refine u_lv (lv' := [(0, .ref (adr G (11, 0, 0))), (1, .int x1), (2, .int v8), (3, .int v9)]) [2, 3, 1, 0] rfl ?_
        exact ih x1 v8 v9 h
set_option maxHeartbeats 4000000 in
set_option maxRecDepth 100000 in
theorem c_X11_who (G : G0) (hL : Im G) (x1 : Int32) (σ : Mem) (mo : Grp) (e_mo : σ 11 0 = mo) (r : Int32) (h : fX11_who mo x1 = some r) :
    CI G yX11_who cX11_who 4 .int 3 [.ref (adr G (11, 0, 0)), .int x1] σ r σ := by
  refine CI.of (by decide +kernel) (Nat.le_of_ble_eq_true rfl) (fun Y hY F hR => ?_)
  unfold fX11_who at h
  have F : Fx Y G cX11_who RX11 3 := F
  refine u_lv (lv' := [(0, .ref (adr G (11, 0, 0))), (1, .int x1)]) [0, 1] rfl ?_
  refine u_iload_n (pc := 0) F dX11_who_0 1 rfl rfl ?_
  refine u_i2l (pc := 1) F dX11_who_1 ?_
  refine u_lconst (v := 0) (pc := 2) F dX11_who_2 (by decide) ?_
  refine u_ldc2 (v := 508) (pc := 3) F dX11_who_3 kc_11_310 ?_
  obtain ⟨q1, hq1, h⟩ := d_bd_some h
  refine u_callSi (pc := 6) F (As := [.long (x1.toInt64), .long (0 : Int64), .long (508 : Int64)]) (c_X11_in G hL (x1.toInt64) (0 : Int64) (508 : Int64) σ q1 hq1) ys_X11_in ml_11_105 (by decide) rfl rfl (Nat.le_of_ble_eq_true rfl) dX11_who_6 ?_
  refine u_if_ne (pc := 9) F 15 dX11_who_9 (by decide) (fun c2 => ?_) (fun c2 => ?_)
  · rw [if_neg c2] at h
    refine u_iconst (v := 0) (pc := 15) F dX11_who_15 (by decide) ?_
    refine u_istore_n (lv' := [(2, .int (0 : Int32)), (0, .ref (adr G (11, 0, 0))), (1, .int x1)]) (pc := 16) F dX11_who_16 rfl hY (by decide) rfl ?_
    refine u_iconst (v := 0) (pc := 17) F dX11_who_17 (by decide) ?_
    refine u_istore_n (lv' := [(3, .int (0 : Int32)), (2, .int (0 : Int32)), (0, .ref (adr G (11, 0, 0))), (1, .int x1)]) (pc := 18) F dX11_who_18 rfl hY (by decide) rfl ?_
    refine u_lv (lv' := [(0, .ref (adr G (11, 0, 0))), (1, .int x1), (2, .int (0 : Int32)), (3, .int (0 : Int32))]) [2, 3, 1, 0] rfl ?_
    exact wX11_who_19 Y G hL σ mo e_mo F hY r hR 1000 x1 (0 : Int32) (0 : Int32) h
  · rw [if_pos c2] at h
    refine u_ldc (v := -1000000002) (pc := 12) F dX11_who_12 kc_11_111 ?_
    have h1 := Option.some.inj h
    subst h1
    exact hR _ _ rfl dX11_who_14
/- RollingCodesModel.same -/
def fX11_same_26 (mo : Grp) : Nat → Int32 → Int32 → Int32 → Option (Int32)
  | 0, _, _, _ => none
  | fu + 1, x1, x2, x3 =>
    if x3 ≤ (200 : Int32) then (d_ab x1 5 <| d_ab ((5 : Int32) + x1) 59 <| d_bd (fX11_codeOf (mo 12 x1.toNatClampNeg) (jrem ((mo 14 ((5 : Int32) + x1).toNatClampNeg) + x3) (10000 : Int32))) fun q9 => d_ab x2 5 <| d_ab ((5 : Int32) + x2) 59 <| d_bd (fX11_codeOf (mo 12 x2.toNatClampNeg) (jrem ((mo 14 ((5 : Int32) + x2).toNatClampNeg) + x3) (10000 : Int32))) fun q12 => if q9 = q12 then (some x3) else (d_lt (x3 + (1 : Int32)) fun v14 => fX11_same_26 mo fu x1 x2 v14)) else (some (-1 : Int32))
def fX11_same (mo : Grp) (x1 : Int32) (x2 : Int32) : Option (Int32) :=
    d_bd (fX11_isFob mo x1) fun q1 => if q1 = 0 then (some (-1000000001 : Int32)) else (d_bd (fX11_isFob mo x2) fun q3 => if q3 = 0 then (some (-1000000001 : Int32)) else (if x1 = x2 then (some (-1000000001 : Int32)) else (fX11_same_26 mo 1000 x1 x2 (1 : Int32))))
set_option maxHeartbeats 4000000 in
set_option maxRecDepth 100000 in
theorem wX11_same_26 (Y : Dy) (G : G0) (hL : Im G) (σ : Mem) (mo : Grp) (e_mo : σ 11 0 = mo) (F : Fx Y G cX11_same RX11 3) (hY : Y.2.2.2.2.2.2.2.2.2.2.2.1 = 6) (r : Int32) (hR : ∀ (pc : Nat) (lv : List (Nat × Value)), narrow .int (.int r) = .int r → decode cX11_same pc = .ok (.ireturn, 1) → U Y G σ pc lv [.int r]) :
    ∀ (fu : Nat) (x1 : Int32) (x2 : Int32) (x3 : Int32), fX11_same_26 mo fu x1 x2 x3 = some r → U Y G σ 26 [(0, .ref (adr G (11, 0, 0))), (1, .int x1), (2, .int x2), (3, .int x3)] [] := by
  intro fu
  induction fu with
  | zero =>
    intro x1 x2 x3 h
    rw [fX11_same_26] at h
    cases h
  | succ fu ih =>
    intro x1 x2 x3 h
    rw [fX11_same_26] at h
    refine u_iload_n (pc := 26) F dX11_same_26 3 rfl rfl ?_
    refine u_sipush (v := 200) (pc := 27) F dX11_same_27 (by decide) ?_
    refine u_icmp_gt (pc := 30) F 98 dX11_same_30 (by decide) (fun c6 => ?_) (fun c6 => ?_)
    · rw [if_neg c6] at h
      refine u_iconst (v := -1) (pc := 98) F dX11_same_98 (by decide) ?_
      have h1 := Option.some.inj h
      subst h1
      exact hR _ _ rfl dX11_same_99
    · rw [if_pos c6] at h
      refine u_aload_n (pc := 33) F dX11_same_33 0 rfl rfl ?_
      refine u_getA (pc := 34) F dX11_same_34 (hL 11 0 0 (by decide) rfl) ck_11 fl_11_28 rfl (by decide) (by decide) ?_
      refine u_iload_n (pc := 37) F dX11_same_37 1 rfl rfl ?_
      obtain ⟨b7, h⟩ := d_ab_some h
      refine u_aldI (v := mo 12 x1.toNatClampNeg) (pc := 38) F dX11_same_38 (hL 11 0 12 (by decide) rfl) rfl b7 (congrFun (congrFun (show σ 11 0 = mo from e_mo) 12) _) ?_
      refine u_aload_n (pc := 39) F dX11_same_39 0 rfl rfl ?_
      refine u_getA (pc := 40) F dX11_same_40 (hL 11 0 0 (by decide) rfl) ck_11 fl_11_34 rfl (by decide) (by decide) ?_
      refine u_iconst (v := 5) (pc := 43) F dX11_same_43 (by decide) ?_
      refine u_iload_n (pc := 44) F dX11_same_44 1 rfl rfl ?_
      refine u_iadd (pc := 45) F dX11_same_45 ?_
      obtain ⟨b8, h⟩ := d_ab_some h
      refine u_aldI (v := mo 14 ((5 : Int32) + x1).toNatClampNeg) (pc := 46) F dX11_same_46 (hL 11 0 14 (by decide) rfl) rfl b8 (congrFun (congrFun (show σ 11 0 = mo from e_mo) 14) _) ?_
      refine u_iload_n (pc := 47) F dX11_same_47 3 rfl rfl ?_
      refine u_iadd (pc := 48) F dX11_same_48 ?_
      refine u_sipush (v := 10000) (pc := 49) F dX11_same_49 (by decide) ?_
      refine u_irem (pc := 52) F dX11_same_52 (by decide) ?_
      obtain ⟨q9, hq9, h⟩ := d_bd_some h
      refine u_callSi (pc := 53) F (As := [.int (mo 12 x1.toNatClampNeg), .int (jrem ((mo 14 ((5 : Int32) + x1).toNatClampNeg) + x3) (10000 : Int32))]) (c_X11_codeOf G hL (mo 12 x1.toNatClampNeg) (jrem ((mo 14 ((5 : Int32) + x1).toNatClampNeg) + x3) (10000 : Int32)) σ q9 hq9) ys_X11_codeOf ml_11_193 (by decide) rfl rfl (Nat.le_of_ble_eq_true rfl) dX11_same_53 ?_
      refine u_istore (lv' := [(4, .int q9), (0, .ref (adr G (11, 0, 0))), (1, .int x1), (2, .int x2), (3, .int x3)]) (pc := 56) F dX11_same_56 hY (by decide) rfl ?_
      refine u_aload_n (pc := 58) F dX11_same_58 1 rfl rfl ?_
      refine u_getA (pc := 59) F dX11_same_59 (hL 11 0 0 (by decide) rfl) ck_11 fl_11_28 rfl (by decide) (by decide) ?_
      refine u_iload_n (pc := 62) F dX11_same_62 3 rfl rfl ?_
      obtain ⟨b10, h⟩ := d_ab_some h
      refine u_aldI (v := mo 12 x2.toNatClampNeg) (pc := 63) F dX11_same_63 (hL 11 0 12 (by decide) rfl) rfl b10 (congrFun (congrFun (show σ 11 0 = mo from e_mo) 12) _) ?_
      refine u_aload_n (pc := 64) F dX11_same_64 1 rfl rfl ?_
      refine u_getA (pc := 65) F dX11_same_65 (hL 11 0 0 (by decide) rfl) ck_11 fl_11_34 rfl (by decide) (by decide) ?_
      refine u_iconst (v := 5) (pc := 68) F dX11_same_68 (by decide) ?_
      refine u_iload_n (pc := 69) F dX11_same_69 3 rfl rfl ?_
      refine u_iadd (pc := 70) F dX11_same_70 ?_
      obtain ⟨b11, h⟩ := d_ab_some h
      refine u_aldI (v := mo 14 ((5 : Int32) + x2).toNatClampNeg) (pc := 71) F dX11_same_71 (hL 11 0 14 (by decide) rfl) rfl b11 (congrFun (congrFun (show σ 11 0 = mo from e_mo) 14) _) ?_
      refine u_iload_n (pc := 72) F dX11_same_72 4 rfl rfl ?_
      refine u_iadd (pc := 73) F dX11_same_73 ?_
      refine u_sipush (v := 10000) (pc := 74) F dX11_same_74 (by decide) ?_
      refine u_irem (pc := 77) F dX11_same_77 (by decide) ?_
      obtain ⟨q12, hq12, h⟩ := d_bd_some h
      refine u_callSi (pc := 78) F (As := [.int (mo 12 x2.toNatClampNeg), .int (jrem ((mo 14 ((5 : Int32) + x2).toNatClampNeg) + x3) (10000 : Int32))]) (c_X11_codeOf G hL (mo 12 x2.toNatClampNeg) (jrem ((mo 14 ((5 : Int32) + x2).toNatClampNeg) + x3) (10000 : Int32)) σ q12 hq12) ys_X11_codeOf ml_11_193 (by decide) rfl rfl (Nat.le_of_ble_eq_true rfl) dX11_same_78 ?_
      refine u_istore (lv' := [(5, .int q12), (4, .int q9), (0, .ref (adr G (11, 0, 0))), (1, .int x1), (2, .int x2), (3, .int x3)]) (pc := 81) F dX11_same_81 hY (by decide) rfl ?_
      refine u_iload (pc := 83) F dX11_same_83 1 rfl ?_
      refine u_iload (pc := 85) F dX11_same_85 0 rfl ?_
      refine u_icmp_ne (pc := 87) F 92 dX11_same_87 (by decide) (fun c13 => ?_) (fun c13 => ?_)
      · rw [if_neg c13] at h
        obtain ⟨v14, hv14, h⟩ := d_lt_some h
        refine u_iinc (lv' := [(3, .int v14), (5, .int q12), (4, .int q9), (0, .ref (adr G (11, 0, 0))), (1, .int x1), (2, .int x2)]) (pc := 92) F dX11_same_92 5 rfl hv14.symm hY (by decide) rfl ?_
        refine u_goto (pc := 95) F 26 dX11_same_95 (by decide) ?_
        refine u_lv (lv' := [(0, .ref (adr G (11, 0, 0))), (1, .int x1), (2, .int x2), (3, .int v14)]) [3, 4, 5, 0] rfl ?_
        exact ih x1 x2 v14 h
      · rw [if_pos c13] at h
        refine u_iload_n (pc := 90) F dX11_same_90 5 rfl rfl ?_
        have h1 := Option.some.inj h
        subst h1
        exact hR _ _ rfl dX11_same_91
set_option maxHeartbeats 4000000 in
set_option maxRecDepth 100000 in
theorem c_X11_same (G : G0) (hL : Im G) (x1 : Int32) (x2 : Int32) (σ : Mem) (mo : Grp) (e_mo : σ 11 0 = mo) (r : Int32) (h : fX11_same mo x1 x2 = some r) :
    CI G yX11_same cX11_same 6 .int 3 [.ref (adr G (11, 0, 0)), .int x1, .int x2] σ r σ := by
  refine CI.of (by decide +kernel) (Nat.le_of_ble_eq_true rfl) (fun Y hY F hR => ?_)
  unfold fX11_same at h
  have F : Fx Y G cX11_same RX11 3 := F
  refine u_lv (lv' := [(0, .ref (adr G (11, 0, 0))), (1, .int x1), (2, .int x2)]) [0, 1, 2] rfl ?_
  refine u_aload_n (pc := 0) F dX11_same_0 0 rfl rfl ?_
  refine u_iload_n (pc := 1) F dX11_same_1 1 rfl rfl ?_
  obtain ⟨q1, hq1, h⟩ := d_bd_some h
  refine u_calli (pc := 2) F (As := [.int x1]) (c_X11_isFob G hL x1 σ mo ((show σ 11 0 = mo from e_mo)) q1 hq1) yv_X11_isFob ml_11_233 (hL 11 0 0 (by decide) rfl) rfl (by decide) rfl rfl (Nat.le_of_ble_eq_true rfl) dX11_same_2 ?_
  refine u_if_eq (pc := 5) F 21 dX11_same_5 (by decide) (fun c2 => ?_) (fun c2 => ?_)
  · rw [if_pos c2] at h
    refine u_ldc (v := -1000000001) (pc := 21) F dX11_same_21 kc_11_237 ?_
    have h1 := Option.some.inj h
    subst h1
    exact hR _ _ rfl dX11_same_23
  · rw [if_neg c2] at h
    refine u_aload_n (pc := 8) F dX11_same_8 0 rfl rfl ?_
    refine u_iload_n (pc := 9) F dX11_same_9 2 rfl rfl ?_
    obtain ⟨q3, hq3, h⟩ := d_bd_some h
    refine u_calli (pc := 10) F (As := [.int x2]) (c_X11_isFob G hL x2 σ mo ((show σ 11 0 = mo from e_mo)) q3 hq3) yv_X11_isFob ml_11_233 (hL 11 0 0 (by decide) rfl) rfl (by decide) rfl rfl (Nat.le_of_ble_eq_true rfl) dX11_same_10 ?_
    refine u_if_eq (pc := 13) F 21 dX11_same_13 (by decide) (fun c4 => ?_) (fun c4 => ?_)
    · rw [if_pos c4] at h
      refine u_ldc (v := -1000000001) (pc := 21) F dX11_same_21 kc_11_237 ?_
      have h1 := Option.some.inj h
      subst h1
      exact hR _ _ rfl dX11_same_23
    · rw [if_neg c4] at h
      refine u_iload_n (pc := 16) F dX11_same_16 1 rfl rfl ?_
      refine u_iload_n (pc := 17) F dX11_same_17 2 rfl rfl ?_
      refine u_icmp_ne (pc := 18) F 24 dX11_same_18 (by decide) (fun c5 => ?_) (fun c5 => ?_)
      · rw [if_neg c5] at h
        refine u_iconst (v := 1) (pc := 24) F dX11_same_24 (by decide) ?_
        refine u_istore_n (lv' := [(3, .int (1 : Int32)), (0, .ref (adr G (11, 0, 0))), (1, .int x1), (2, .int x2)]) (pc := 25) F dX11_same_25 rfl hY (by decide) rfl ?_
        refine u_lv (lv' := [(0, .ref (adr G (11, 0, 0))), (1, .int x1), (2, .int x2), (3, .int (1 : Int32))]) [1, 2, 3, 0] rfl ?_
        exact wX11_same_26 Y G hL σ mo e_mo F hY r hR 1000 x1 x2 (1 : Int32) h
      · rw [if_pos c5] at h
        refine u_ldc (v := -1000000001) (pc := 21) F dX11_same_21 kc_11_237 ?_
        have h1 := Option.some.inj h
        subst h1
        exact hR _ _ rfl dX11_same_23
/- RollingCodesModel.quiet -/
def fX11_quiet_34  : Nat → Int32 → Int32 → Int64 → Int32 → Option (Int32)
  | 0, _, _, _, _ => none
  | fu + 1, x1, x2, x3, x5 =>
    if x5 < x1 then (d_lt ((x3 * (x2.toInt64)) / (100 : Int64)) fun v6 => d_lt (x5 + (1 : Int32)) fun v7 => fX11_quiet_34 fu x1 x2 v6 v7) else (some (x3.toInt32))
def fX11_quiet (x1 : Int32) (x2 : Int32) : Option (Int32) :=
    d_bd (fX11_in (x1.toInt64) (0 : Int64) (60 : Int64)) fun q1 => if q1 = 0 then (some (-1000000002 : Int32)) else (d_bd (fX11_in (x2.toInt64) (0 : Int64) (100 : Int64)) fun q3 => if q3 = 0 then (some (-1000000002 : Int32)) else (fX11_quiet_34 1000 x1 x2 (1000000000 : Int64) (0 : Int32)))
set_option maxHeartbeats 4000000 in
set_option maxRecDepth 100000 in
theorem wX11_quiet_34 (Y : Dy) (G : G0) (hL : Im G) (σ : Mem) (F : Fx Y G cX11_quiet RX11 2) (hY : Y.2.2.2.2.2.2.2.2.2.2.2.1 = 6) (r : Int32) (hR : ∀ (pc : Nat) (lv : List (Nat × Value)), narrow .int (.int r) = .int r → decode cX11_quiet pc = .ok (.ireturn, 1) → U Y G σ pc lv [.int r]) :
    ∀ (fu : Nat) (x1 : Int32) (x2 : Int32) (x3 : Int64) (x5 : Int32), fX11_quiet_34 fu x1 x2 x3 x5 = some r → U Y G σ 34 [(1, .int x1), (2, .int x2), (3, .long x3), (5, .int x5)] [] := by
  intro fu
  induction fu with
  | zero =>
    intro x1 x2 x3 x5 h
    rw [fX11_quiet_34] at h
    cases h
  | succ fu ih =>
    intro x1 x2 x3 x5 h
    rw [fX11_quiet_34] at h
    refine u_iload (pc := 34) F dX11_quiet_34 3 rfl ?_
    refine u_iload_n (pc := 36) F dX11_quiet_36 0 rfl rfl ?_
    refine u_icmp_ge (pc := 37) F 55 dX11_quiet_37 (by decide) (fun c5 => ?_) (fun c5 => ?_)
    · rw [if_neg c5] at h
      refine u_lload_n (pc := 55) F dX11_quiet_55 2 rfl rfl ?_
      refine u_l2i (pc := 56) F dX11_quiet_56 ?_
      have h1 := Option.some.inj h
      subst h1
      exact hR _ _ rfl dX11_quiet_57
    · rw [if_pos c5] at h
      refine u_lload_n (pc := 40) F dX11_quiet_40 2 rfl rfl ?_
      refine u_iload_n (pc := 41) F dX11_quiet_41 1 rfl rfl ?_
      refine u_i2l (pc := 42) F dX11_quiet_42 ?_
      refine u_lmul (pc := 43) F dX11_quiet_43 ?_
      refine u_ldc2 (v := 100) (pc := 44) F dX11_quiet_44 kc_11_315 ?_
      refine u_ldiv (pc := 47) F dX11_quiet_47 (by decide) ?_
      obtain ⟨v6, hv6, h⟩ := d_lt_some h
      refine u_topl hv6 ?_
      refine u_lstore_n (lv' := [(3, .long v6), (1, .int x1), (2, .int x2), (5, .int x5)]) (pc := 48) F dX11_quiet_48 rfl hY (by decide) rfl ?_
      obtain ⟨v7, hv7, h⟩ := d_lt_some h
      refine u_iinc (lv' := [(5, .int v7), (3, .long v6), (1, .int x1), (2, .int x2)]) (pc := 49) F dX11_quiet_49 3 rfl hv7.symm hY (by decide) rfl ?_
      refine u_goto (pc := 52) F 34 dX11_quiet_52 (by decide) ?_
      refine u_lv (lv' := [(1, .int x1), (2, .int x2), (3, .long v6), (5, .int v7)]) [2, 3, 1, 0] rfl ?_
      exact ih x1 x2 v6 v7 h
set_option maxHeartbeats 4000000 in
set_option maxRecDepth 100000 in
theorem c_X11_quiet (G : G0) (hL : Im G) (x1 : Int32) (x2 : Int32) (σ : Mem) (r : Int32) (h : fX11_quiet x1 x2 = some r) :
    CI G yX11_quiet cX11_quiet 6 .int 2 [.ref (adr G (11, 0, 0)), .int x1, .int x2] σ r σ := by
  refine CI.of (by decide +kernel) (Nat.le_of_ble_eq_true rfl) (fun Y hY F hR => ?_)
  unfold fX11_quiet at h
  have F : Fx Y G cX11_quiet RX11 2 := F
  refine u_lv (lv' := [(0, .ref (adr G (11, 0, 0))), (1, .int x1), (2, .int x2)]) [0, 1, 2] rfl ?_
  refine u_iload_n (pc := 0) F dX11_quiet_0 1 rfl rfl ?_
  refine u_i2l (pc := 1) F dX11_quiet_1 ?_
  refine u_lconst (v := 0) (pc := 2) F dX11_quiet_2 (by decide) ?_
  refine u_ldc2 (v := 60) (pc := 3) F dX11_quiet_3 kc_11_270 ?_
  obtain ⟨q1, hq1, h⟩ := d_bd_some h
  refine u_callSi (pc := 6) F (As := [.long (x1.toInt64), .long (0 : Int64), .long (60 : Int64)]) (c_X11_in G hL (x1.toInt64) (0 : Int64) (60 : Int64) σ q1 hq1) ys_X11_in ml_11_105 (by decide) rfl rfl (Nat.le_of_ble_eq_true rfl) dX11_quiet_6 ?_
  refine u_if_eq (pc := 9) F 24 dX11_quiet_9 (by decide) (fun c2 => ?_) (fun c2 => ?_)
  · rw [if_pos c2] at h
    refine u_ldc (v := -1000000002) (pc := 24) F dX11_quiet_24 kc_11_111 ?_
    have h1 := Option.some.inj h
    subst h1
    exact hR _ _ rfl dX11_quiet_26
  · rw [if_neg c2] at h
    refine u_iload_n (pc := 12) F dX11_quiet_12 2 rfl rfl ?_
    refine u_i2l (pc := 13) F dX11_quiet_13 ?_
    refine u_lconst (v := 0) (pc := 14) F dX11_quiet_14 (by decide) ?_
    refine u_ldc2 (v := 100) (pc := 15) F dX11_quiet_15 kc_11_315 ?_
    obtain ⟨q3, hq3, h⟩ := d_bd_some h
    refine u_callSi (pc := 18) F (As := [.long (x2.toInt64), .long (0 : Int64), .long (100 : Int64)]) (c_X11_in G hL (x2.toInt64) (0 : Int64) (100 : Int64) σ q3 hq3) ys_X11_in ml_11_105 (by decide) rfl rfl (Nat.le_of_ble_eq_true rfl) dX11_quiet_18 ?_
    refine u_if_ne (pc := 21) F 27 dX11_quiet_21 (by decide) (fun c4 => ?_) (fun c4 => ?_)
    · rw [if_neg c4] at h
      refine u_ldc2 (v := 1000000000) (pc := 27) F dX11_quiet_27 kc_11_317 ?_
      refine u_lstore_n (lv' := [(3, .long (1000000000 : Int64)), (0, .ref (adr G (11, 0, 0))), (1, .int x1), (2, .int x2)]) (pc := 30) F dX11_quiet_30 rfl hY (by decide) rfl ?_
      refine u_iconst (v := 0) (pc := 31) F dX11_quiet_31 (by decide) ?_
      refine u_istore (lv' := [(5, .int (0 : Int32)), (3, .long (1000000000 : Int64)), (0, .ref (adr G (11, 0, 0))), (1, .int x1), (2, .int x2)]) (pc := 32) F dX11_quiet_32 hY (by decide) rfl ?_
      refine u_lv (lv' := [(1, .int x1), (2, .int x2), (3, .long (1000000000 : Int64)), (5, .int (0 : Int32))]) [3, 4, 1, 0] rfl ?_
      exact wX11_quiet_34 Y G hL σ F hY r hR 1000 x1 x2 (1000000000 : Int64) (0 : Int32) h
    · rw [if_pos c4] at h
      refine u_ldc (v := -1000000002) (pc := 24) F dX11_quiet_24 kc_11_111 ?_
      have h1 := Option.some.inj h
      subst h1
      exact hR _ _ rfl dX11_quiet_26
/- RollingCodesModel.see -/
def fX11_see (mo : Grp) (x1 : Int32) (x2 : Int32) : Option (Int32 × Grp) :=
    d_bd (fX11_in (x1.toInt64) (0 : Int64) (999 : Int64)) fun q1 => if q1 = 0 then (some ((-1000000002 : Int32), mo)) else (d_bd (fX11_in (x2.toInt64) (0 : Int64) (508 : Int64)) fun q3 => if q3 = 0 then (some ((-1000000002 : Int32), mo)) else (if (mo 0 37) = (6 : Int32) then (some ((-1000000004 : Int32), mo)) else (d_ab (mo 0 37) 6 <| d_lt (wr mo 39 (mo 0 37).toNatClampNeg x1) fun g7 => d_ab (g7 0 37) 6 <| d_lt (wr g7 40 (g7 0 37).toNatClampNeg x2) fun g9 => d_lt (wr g9 0 37 ((g9 0 37) + (1 : Int32))) fun g10 => some (g10 0 37, g10))))
set_option maxHeartbeats 4000000 in
set_option maxRecDepth 100000 in
theorem c_X11_see (G : G0) (hL : Im G) (x1 : Int32) (x2 : Int32) (σ : Mem) (mo : Grp) (e_mo : σ 11 0 = mo) (r : Int32) (mo' : Grp) (h : fX11_see mo x1 x2 = some (r, mo')) :
    CI G yX11_see cX11_see 3 .int 2 [.ref (adr G (11, 0, 0)), .int x1, .int x2] σ r (upM σ 11 0 (mo')) := by
  refine CI.of (by decide +kernel) (Nat.le_of_ble_eq_true rfl) (fun Y hY F hR => ?_)
  unfold fX11_see at h
  have F : Fx Y G cX11_see RX11 2 := F
  refine u_mem (σ2 := (upM σ 11 0 mo)) (by rw [← e_mo]; simp only [upM_self]) ?_
  refine u_lv (lv' := [(0, .ref (adr G (11, 0, 0))), (1, .int x1), (2, .int x2)]) [0, 1, 2] rfl ?_
  refine u_iload_n (pc := 0) F dX11_see_0 1 rfl rfl ?_
  refine u_i2l (pc := 1) F dX11_see_1 ?_
  refine u_lconst (v := 0) (pc := 2) F dX11_see_2 (by decide) ?_
  refine u_ldc2 (v := 999) (pc := 3) F dX11_see_3 kc_11_319 ?_
  obtain ⟨q1, hq1, h⟩ := d_bd_some h
  refine u_callSi (pc := 6) F (As := [.long (x1.toInt64), .long (0 : Int64), .long (999 : Int64)]) (c_X11_in G hL (x1.toInt64) (0 : Int64) (999 : Int64) (upM σ 11 0 mo) q1 hq1) ys_X11_in ml_11_105 (by decide) rfl rfl (Nat.le_of_ble_eq_true rfl) dX11_see_6 ?_
  refine u_if_eq (pc := 9) F 24 dX11_see_9 (by decide) (fun c2 => ?_) (fun c2 => ?_)
  · rw [if_pos c2] at h
    refine u_ldc (v := -1000000002) (pc := 24) F dX11_see_24 kc_11_111 ?_
    have h1 := Option.some.inj h
    obtain ⟨hj0, hr0⟩ := Prod.mk.inj h1
    subst hj0
    subst hr0
    exact hR _ _ rfl dX11_see_26
  · rw [if_neg c2] at h
    refine u_iload_n (pc := 12) F dX11_see_12 2 rfl rfl ?_
    refine u_i2l (pc := 13) F dX11_see_13 ?_
    refine u_lconst (v := 0) (pc := 14) F dX11_see_14 (by decide) ?_
    refine u_ldc2 (v := 508) (pc := 15) F dX11_see_15 kc_11_310 ?_
    obtain ⟨q3, hq3, h⟩ := d_bd_some h
    refine u_callSi (pc := 18) F (As := [.long (x2.toInt64), .long (0 : Int64), .long (508 : Int64)]) (c_X11_in G hL (x2.toInt64) (0 : Int64) (508 : Int64) (upM σ 11 0 mo) q3 hq3) ys_X11_in ml_11_105 (by decide) rfl rfl (Nat.le_of_ble_eq_true rfl) dX11_see_18 ?_
    refine u_if_ne (pc := 21) F 27 dX11_see_21 (by decide) (fun c4 => ?_) (fun c4 => ?_)
    · rw [if_neg c4] at h
      refine u_aload_n (pc := 27) F dX11_see_27 0 rfl rfl ?_
      refine u_get1 (pc := 28) F dX11_see_28 (hL 11 0 0 (by decide) rfl) ck_11 fl_11_182 rfl (by decide) ?_
      refine u_bipush (v := 6) (pc := 31) F dX11_see_31 (by decide) ?_
      refine u_icmp_ne (pc := 33) F 39 dX11_see_33 (by decide) (fun c5 => ?_) (fun c5 => ?_)
      · rw [if_neg c5] at h
        refine u_aload_n (pc := 39) F dX11_see_39 0 rfl rfl ?_
        refine u_getA (pc := 40) F dX11_see_40 (hL 11 0 0 (by decide) rfl) ck_11 fl_11_77 rfl (by decide) (by decide) ?_
        refine u_aload_n (pc := 43) F dX11_see_43 0 rfl rfl ?_
        refine u_get1 (pc := 44) F dX11_see_44 (hL 11 0 0 (by decide) rfl) ck_11 fl_11_182 rfl (by decide) ?_
        refine u_iload_n (pc := 47) F dX11_see_47 1 rfl rfl ?_
        obtain ⟨b6, h⟩ := d_ab_some h
        refine u_astI1 (pc := 48) F dX11_see_48 (hL 11 0 39 (by decide) rfl) rfl b6 ?_
        obtain ⟨g7, hg7, h⟩ := d_lt_some h
        refine u_mem (σ2 := (upM σ 11 0 g7)) (by rw [hg7]) ?_
        refine u_aload_n (pc := 49) F dX11_see_49 0 rfl rfl ?_
        refine u_getA (pc := 50) F dX11_see_50 (hL 11 0 0 (by decide) rfl) ck_11 fl_11_80 rfl (by decide) (by decide) ?_
        refine u_aload_n (pc := 53) F dX11_see_53 0 rfl rfl ?_
        refine u_get1 (pc := 54) F dX11_see_54 (hL 11 0 0 (by decide) rfl) ck_11 fl_11_182 rfl (by decide) ?_
        refine u_iload_n (pc := 57) F dX11_see_57 2 rfl rfl ?_
        obtain ⟨b8, h⟩ := d_ab_some h
        refine u_astI1 (pc := 58) F dX11_see_58 (hL 11 0 40 (by decide) rfl) rfl b8 ?_
        obtain ⟨g9, hg9, h⟩ := d_lt_some h
        refine u_mem (σ2 := (upM σ 11 0 g9)) (by rw [hg9]) ?_
        refine u_aload_n (pc := 59) F dX11_see_59 0 rfl rfl ?_
        refine u_dup (pc := 60) F dX11_see_60 rfl ?_
        refine u_get1 (pc := 61) F dX11_see_61 (hL 11 0 0 (by decide) rfl) ck_11 fl_11_182 rfl (by decide) ?_
        refine u_iconst (v := 1) (pc := 64) F dX11_see_64 (by decide) ?_
        refine u_iadd (pc := 65) F dX11_see_65 ?_
        refine u_put1 (pc := 66) F dX11_see_66 (hL 11 0 0 (by decide) rfl) ck_11 fl_11_182 rfl (by decide) rfl (ty0 := .int) (by decide +kernel) rfl rfl ?_
        obtain ⟨g10, hg10, h⟩ := d_lt_some h
        refine u_mem (σ2 := (upM σ 11 0 g10)) (by rw [hg10]) ?_
        refine u_aload_n (pc := 69) F dX11_see_69 0 rfl rfl ?_
        refine u_get1 (pc := 70) F dX11_see_70 (hL 11 0 0 (by decide) rfl) ck_11 fl_11_182 rfl (by decide) ?_
        have h1 := Option.some.inj h
        obtain ⟨hj0, hr0⟩ := Prod.mk.inj h1
        subst hj0
        subst hr0
        exact hR _ _ rfl dX11_see_73
      · rw [if_pos c5] at h
        refine u_ldc (v := -1000000004) (pc := 36) F dX11_see_36 kc_11_115 ?_
        have h1 := Option.some.inj h
        obtain ⟨hj0, hr0⟩ := Prod.mk.inj h1
        subst hj0
        subst hr0
        exact hR _ _ rfl dX11_see_38
    · rw [if_pos c4] at h
      refine u_ldc (v := -1000000002) (pc := 24) F dX11_see_24 kc_11_111 ?_
      have h1 := Option.some.inj h
      obtain ⟨hj0, hr0⟩ := Prod.mk.inj h1
      subst hj0
      subst hr0
      exact hR _ _ rfl dX11_see_26
/- RollingCodesModel.couldBe -/
def fX11_couldBe_4 (mo : Grp) : Nat → Int32 → Int32 → Int32 → Option (Int32)
  | 0, _, _, _ => none
  | fu + 1, x1, x2, x3 =>
    if x3 < (mo 0 37) then (if x2 = 0 then (d_zb x2 <| some x2) else (d_ab x3 6 <| d_bd (fX11_codeOf x1 (mo 39 x3.toNatClampNeg)) fun q6 => d_ab x3 6 <| d_lt (if q6 = (mo 40 x3.toNatClampNeg) then (1 : Int32) else (0 : Int32)) fun v8 => d_lt (x3 + (1 : Int32)) fun v10 => fX11_couldBe_4 mo fu x1 v8 v10)) else (d_zb x2 <| some x2)
def fX11_couldBe (mo : Grp) (x1 : Int32) : Option (Int32) :=
    fX11_couldBe_4 mo 1000 x1 (1 : Int32) (0 : Int32)
set_option maxHeartbeats 4000000 in
set_option maxRecDepth 100000 in
theorem wX11_couldBe_4 (Y : Dy) (G : G0) (hL : Im G) (σ : Mem) (mo : Grp) (e_mo : σ 11 0 = mo) (F : Fx Y G cX11_couldBe RX11 2) (hY : Y.2.2.2.2.2.2.2.2.2.2.2.1 = 4) (r : Int32) (hR : ∀ (pc : Nat) (lv : List (Nat × Value)), narrow .boolean (.int r) = .int r → decode cX11_couldBe pc = .ok (.ireturn, 1) → U Y G σ pc lv [.int r]) :
    ∀ (fu : Nat) (x1 : Int32) (x2 : Int32) (x3 : Int32), fX11_couldBe_4 mo fu x1 x2 x3 = some r → U Y G σ 4 [(0, .ref (adr G (11, 0, 0))), (1, .int x1), (2, .int x2), (3, .int x3)] [] := by
  intro fu
  induction fu with
  | zero =>
    intro x1 x2 x3 h
    rw [fX11_couldBe_4] at h
    cases h
  | succ fu ih =>
    intro x1 x2 x3 h
    rw [fX11_couldBe_4] at h
    refine u_iload_n (pc := 4) F dX11_couldBe_4 3 rfl rfl ?_
    refine u_aload_n (pc := 5) F dX11_couldBe_5 0 rfl rfl ?_
    refine u_get (v := mo 0 37) (pc := 6) F dX11_couldBe_6 (hL 11 0 0 (by decide) rfl) ck_11 fl_11_182 rfl (by decide) (congrFun (congrFun (show σ 11 0 = mo from e_mo) 0) 37) ?_
    refine u_icmp_ge (pc := 9) F 47 dX11_couldBe_9 (by decide) (fun c1 => ?_) (fun c1 => ?_)
    · rw [if_neg c1] at h
      refine u_iload_n (pc := 47) F dX11_couldBe_47 2 rfl rfl ?_
      obtain ⟨c2, h⟩ := d_zb_some h
      have h1 := Option.some.inj h
      subst h1
      exact hR _ _ (nar_zb c2) dX11_couldBe_48
    · rw [if_pos c1] at h
      refine u_iload_n (pc := 12) F dX11_couldBe_12 2 rfl rfl ?_
      refine u_if_eq (pc := 13) F 47 dX11_couldBe_13 (by decide) (fun c3 => ?_) (fun c3 => ?_)
      · rw [if_pos c3] at h
        refine u_iload_n (pc := 47) F dX11_couldBe_47 2 rfl rfl ?_
        obtain ⟨c4, h⟩ := d_zb_some h
        have h1 := Option.some.inj h
        subst h1
        exact hR _ _ (nar_zb c4) dX11_couldBe_48
      · rw [if_neg c3] at h
        refine u_iload_n (pc := 16) F dX11_couldBe_16 1 rfl rfl ?_
        refine u_aload_n (pc := 17) F dX11_couldBe_17 0 rfl rfl ?_
        refine u_getA (pc := 18) F dX11_couldBe_18 (hL 11 0 0 (by decide) rfl) ck_11 fl_11_77 rfl (by decide) (by decide) ?_
        refine u_iload_n (pc := 21) F dX11_couldBe_21 3 rfl rfl ?_
        obtain ⟨b5, h⟩ := d_ab_some h
        refine u_aldI (v := mo 39 x3.toNatClampNeg) (pc := 22) F dX11_couldBe_22 (hL 11 0 39 (by decide) rfl) rfl b5 (congrFun (congrFun (show σ 11 0 = mo from e_mo) 39) _) ?_
        obtain ⟨q6, hq6, h⟩ := d_bd_some h
        refine u_callSi (pc := 23) F (As := [.int x1, .int (mo 39 x3.toNatClampNeg)]) (c_X11_codeOf G hL x1 (mo 39 x3.toNatClampNeg) σ q6 hq6) ys_X11_codeOf ml_11_193 (by decide) rfl rfl (Nat.le_of_ble_eq_true rfl) dX11_couldBe_23 ?_
        refine u_aload_n (pc := 26) F dX11_couldBe_26 0 rfl rfl ?_
        refine u_getA (pc := 27) F dX11_couldBe_27 (hL 11 0 0 (by decide) rfl) ck_11 fl_11_80 rfl (by decide) (by decide) ?_
        refine u_iload_n (pc := 30) F dX11_couldBe_30 3 rfl rfl ?_
        obtain ⟨b7, h⟩ := d_ab_some h
        refine u_aldI (v := mo 40 x3.toNatClampNeg) (pc := 31) F dX11_couldBe_31 (hL 11 0 40 (by decide) rfl) rfl b7 (congrFun (congrFun (show σ 11 0 = mo from e_mo) 40) _) ?_
        obtain ⟨v8, hv8, h⟩ := d_lt_some h
        suffices hj : U Y G σ 40 [(0, .ref (adr G (11, 0, 0))), (1, .int x1), (2, .int x2), (3, .int x3)] [.int v8] by
          refine u_icmp_ne (pc := 32) F 39 dX11_couldBe_32 (by decide) (fun c9 => ?_) (fun c9 => ?_)
          · rw [if_neg c9] at hv8
            refine u_iconst (v := 0) (pc := 39) F dX11_couldBe_39 (by decide) ?_
            exact u_topi hv8 hj
          · rw [if_pos c9] at hv8
            refine u_iconst (v := 1) (pc := 35) F dX11_couldBe_35 (by decide) ?_
            refine u_goto (pc := 36) F 40 dX11_couldBe_36 (by decide) ?_
            exact u_topi hv8 hj
        refine u_istore_n (lv' := [(2, .int v8), (0, .ref (adr G (11, 0, 0))), (1, .int x1), (3, .int x3)]) (pc := 40) F dX11_couldBe_40 rfl hY (by decide) rfl ?_
        obtain ⟨v10, hv10, h⟩ := d_lt_some h
        refine u_iinc (lv' := [(3, .int v10), (2, .int v8), (0, .ref (adr G (11, 0, 0))), (1, .int x1)]) (pc := 41) F dX11_couldBe_41 3 rfl hv10.symm hY (by decide) rfl ?_
        refine u_goto (pc := 44) F 4 dX11_couldBe_44 (by decide) ?_
        refine u_lv (lv' := [(0, .ref (adr G (11, 0, 0))), (1, .int x1), (2, .int v8), (3, .int v10)]) [2, 3, 1, 0] rfl ?_
        exact ih x1 v8 v10 h
set_option maxHeartbeats 4000000 in
set_option maxRecDepth 100000 in
theorem c_X11_couldBe (G : G0) (hL : Im G) (x1 : Int32) (σ : Mem) (mo : Grp) (e_mo : σ 11 0 = mo) (r : Int32) (h : fX11_couldBe mo x1 = some r) :
    CI G yX11_couldBe cX11_couldBe 4 .boolean 2 [.ref (adr G (11, 0, 0)), .int x1] σ r σ := by
  refine CI.of (by decide +kernel) (Nat.le_of_ble_eq_true rfl) (fun Y hY F hR => ?_)
  unfold fX11_couldBe at h
  have F : Fx Y G cX11_couldBe RX11 2 := F
  refine u_lv (lv' := [(0, .ref (adr G (11, 0, 0))), (1, .int x1)]) [0, 1] rfl ?_
  refine u_iconst (v := 1) (pc := 0) F dX11_couldBe_0 (by decide) ?_
  refine u_istore_n (lv' := [(2, .int (1 : Int32)), (0, .ref (adr G (11, 0, 0))), (1, .int x1)]) (pc := 1) F dX11_couldBe_1 rfl hY (by decide) rfl ?_
  refine u_iconst (v := 0) (pc := 2) F dX11_couldBe_2 (by decide) ?_
  refine u_istore_n (lv' := [(3, .int (0 : Int32)), (2, .int (1 : Int32)), (0, .ref (adr G (11, 0, 0))), (1, .int x1)]) (pc := 3) F dX11_couldBe_3 rfl hY (by decide) rfl ?_
  refine u_lv (lv' := [(0, .ref (adr G (11, 0, 0))), (1, .int x1), (2, .int (1 : Int32)), (3, .int (0 : Int32))]) [2, 3, 1, 0] rfl ?_
  exact wX11_couldBe_4 Y G hL σ mo e_mo F hY r hR 1000 x1 (1 : Int32) (0 : Int32) h
/- RollingCodesModel.manySecrets -/
def fX11_manySecrets_4 (mo : Grp) : Nat → Int32 → Int32 → Option (Int32)
  | 0, _, _ => none
  | fu + 1, x1, x2 =>
    if x2 < (256 : Int32) then (d_bd (fX11_couldBe mo x2) fun q2 => d_lt (if q2 = 0 then (0 : Int32) else (1 : Int32)) fun v3 => d_lt (x1 + v3) fun v5 => d_lt (x2 + (1 : Int32)) fun v6 => fX11_manySecrets_4 mo fu v5 v6) else (some x1)
def fX11_manySecrets (mo : Grp) : Option (Int32) :=
    fX11_manySecrets_4 mo 1000 (0 : Int32) (0 : Int32)
set_option maxHeartbeats 4000000 in
set_option maxRecDepth 100000 in
theorem wX11_manySecrets_4 (Y : Dy) (G : G0) (hL : Im G) (σ : Mem) (mo : Grp) (e_mo : σ 11 0 = mo) (F : Fx Y G cX11_manySecrets RX11 3) (hY : Y.2.2.2.2.2.2.2.2.2.2.2.1 = 3) (r : Int32) (hR : ∀ (pc : Nat) (lv : List (Nat × Value)), narrow .int (.int r) = .int r → decode cX11_manySecrets pc = .ok (.ireturn, 1) → U Y G σ pc lv [.int r]) :
    ∀ (fu : Nat) (x1 : Int32) (x2 : Int32), fX11_manySecrets_4 mo fu x1 x2 = some r → U Y G σ 4 [(0, .ref (adr G (11, 0, 0))), (1, .int x1), (2, .int x2)] [] := by
  intro fu
  induction fu with
  | zero =>
    intro x1 x2 h
    rw [fX11_manySecrets_4] at h
    cases h
  | succ fu ih =>
    intro x1 x2 h
    rw [fX11_manySecrets_4] at h
    refine u_iload_n (pc := 4) F dX11_manySecrets_4 2 rfl rfl ?_
    refine u_sipush (v := 256) (pc := 5) F dX11_manySecrets_5 (by decide) ?_
    refine u_icmp_ge (pc := 8) F 33 dX11_manySecrets_8 (by decide) (fun c1 => ?_) (fun c1 => ?_)
    · rw [if_neg c1] at h
      refine u_iload_n (pc := 33) F dX11_manySecrets_33 1 rfl rfl ?_
      have h1 := Option.some.inj h
      subst h1
      exact hR _ _ rfl dX11_manySecrets_34
    · rw [if_pos c1] at h
      refine u_iload_n (pc := 11) F dX11_manySecrets_11 1 rfl rfl ?_
      refine u_aload_n (pc := 12) F dX11_manySecrets_12 0 rfl rfl ?_
      refine u_iload_n (pc := 13) F dX11_manySecrets_13 2 rfl rfl ?_
      obtain ⟨q2, hq2, h⟩ := d_bd_some h
      refine u_calli (pc := 14) F (As := [.int x2]) (c_X11_couldBe G hL x2 σ mo ((show σ 11 0 = mo from e_mo)) q2 hq2) yv_X11_couldBe ml_11_321 (hL 11 0 0 (by decide) rfl) rfl (by decide) rfl rfl (Nat.le_of_ble_eq_true rfl) dX11_manySecrets_14 ?_
      obtain ⟨v3, hv3, h⟩ := d_lt_some h
      suffices hj : U Y G σ 25 [(0, .ref (adr G (11, 0, 0))), (1, .int x1), (2, .int x2)] [.int v3, .int x1] by
        refine u_if_eq (pc := 17) F 24 dX11_manySecrets_17 (by decide) (fun c4 => ?_) (fun c4 => ?_)
        · rw [if_pos c4] at hv3
          refine u_iconst (v := 0) (pc := 24) F dX11_manySecrets_24 (by decide) ?_
          exact u_topi hv3 hj
        · rw [if_neg c4] at hv3
          refine u_iconst (v := 1) (pc := 20) F dX11_manySecrets_20 (by decide) ?_
          refine u_goto (pc := 21) F 25 dX11_manySecrets_21 (by decide) ?_
          exact u_topi hv3 hj
      refine u_iadd (pc := 25) F dX11_manySecrets_25 ?_
      obtain ⟨v5, hv5, h⟩ := d_lt_some h
      refine u_topi hv5 ?_
      refine u_istore_n (lv' := [(1, .int v5), (0, .ref (adr G (11, 0, 0))), (2, .int x2)]) (pc := 26) F dX11_manySecrets_26 rfl hY (by decide) rfl ?_
      obtain ⟨v6, hv6, h⟩ := d_lt_some h
      refine u_iinc (lv' := [(2, .int v6), (1, .int v5), (0, .ref (adr G (11, 0, 0)))]) (pc := 27) F dX11_manySecrets_27 2 rfl hv6.symm hY (by decide) rfl ?_
      refine u_goto (pc := 30) F 4 dX11_manySecrets_30 (by decide) ?_
      refine u_lv (lv' := [(0, .ref (adr G (11, 0, 0))), (1, .int v5), (2, .int v6)]) [2, 1, 0] rfl ?_
      exact ih v5 v6 h
set_option maxHeartbeats 4000000 in
set_option maxRecDepth 100000 in
theorem c_X11_manySecrets (G : G0) (hL : Im G) (σ : Mem) (mo : Grp) (e_mo : σ 11 0 = mo) (r : Int32) (h : fX11_manySecrets mo = some r) :
    CI G yX11_manySecrets cX11_manySecrets 3 .int 3 [.ref (adr G (11, 0, 0))] σ r σ := by
  refine CI.of (by decide +kernel) (Nat.le_of_ble_eq_true rfl) (fun Y hY F hR => ?_)
  unfold fX11_manySecrets at h
  have F : Fx Y G cX11_manySecrets RX11 3 := F
  refine u_lv (lv' := [(0, .ref (adr G (11, 0, 0)))]) [0] rfl ?_
  refine u_iconst (v := 0) (pc := 0) F dX11_manySecrets_0 (by decide) ?_
  refine u_istore_n (lv' := [(1, .int (0 : Int32)), (0, .ref (adr G (11, 0, 0)))]) (pc := 1) F dX11_manySecrets_1 rfl hY (by decide) rfl ?_
  refine u_iconst (v := 0) (pc := 2) F dX11_manySecrets_2 (by decide) ?_
  refine u_istore_n (lv' := [(2, .int (0 : Int32)), (1, .int (0 : Int32)), (0, .ref (adr G (11, 0, 0)))]) (pc := 3) F dX11_manySecrets_3 rfl hY (by decide) rfl ?_
  refine u_lv (lv' := [(0, .ref (adr G (11, 0, 0))), (1, .int (0 : Int32)), (2, .int (0 : Int32))]) [2, 1, 0] rfl ?_
  exact wX11_manySecrets_4 Y G hL σ mo e_mo F hY r hR 1000 (0 : Int32) (0 : Int32) h
/- RollingCodesModel.secrets -/
def fX11_secrets_22 (mo : Grp) : Nat → Int32 → Int32 → Int32 → Int32 → Option (Int32)
  | 0, _, _, _, _ => none
  | fu + 1, x1, x2, x3, x4 =>
    if x4 < (256 : Int32) then (if x2 < 0 then (d_bd (fX11_couldBe mo x4) fun q12 => if q12 = 0 then (d_bd (fX11_couldBe mo x4) fun q14 => d_lt (if q14 = 0 then x3 else x4) fun v15 => d_lt (x4 + (1 : Int32)) fun v17 => fX11_secrets_22 mo fu x1 x2 v15 v17) else (d_bd (fX11_couldBe mo x4) fun q18 => d_lt (if q18 = 0 then x3 else x4) fun v19 => d_lt (x4 + (1 : Int32)) fun v21 => fX11_secrets_22 mo fu x1 x4 v19 v21)) else (d_bd (fX11_couldBe mo x4) fun q8 => d_lt (if q8 = 0 then x3 else x4) fun v9 => d_lt (x4 + (1 : Int32)) fun v11 => fX11_secrets_22 mo fu x1 x2 v9 v11)) else (if x1 = 0 then (d_bd (fX11_manySecrets mo) fun q6 => some q6) else (if x1 = (1 : Int32) then (some x2) else (some x3)))
def fX11_secrets (mo : Grp) (x1 : Int32) : Option (Int32) :=
    d_bd (fX11_in (x1.toInt64) (0 : Int64) (2 : Int64)) fun q1 => if q1 = 0 then (some (-1000000002 : Int32)) else (fX11_secrets_22 mo 1000 x1 (-1 : Int32) (-1 : Int32) (0 : Int32))
set_option maxHeartbeats 4000000 in
set_option maxRecDepth 100000 in
theorem wX11_secrets_22 (Y : Dy) (G : G0) (hL : Im G) (σ : Mem) (mo : Grp) (e_mo : σ 11 0 = mo) (F : Fx Y G cX11_secrets RX11 4) (hY : Y.2.2.2.2.2.2.2.2.2.2.2.1 = 5) (r : Int32) (hR : ∀ (pc : Nat) (lv : List (Nat × Value)), narrow .int (.int r) = .int r → decode cX11_secrets pc = .ok (.ireturn, 1) → U Y G σ pc lv [.int r]) :
    ∀ (fu : Nat) (x1 : Int32) (x2 : Int32) (x3 : Int32) (x4 : Int32), fX11_secrets_22 mo fu x1 x2 x3 x4 = some r → U Y G σ 22 [(0, .ref (adr G (11, 0, 0))), (1, .int x1), (2, .int x2), (3, .int x3), (4, .int x4)] [] := by
  intro fu
  induction fu with
  | zero =>
    intro x1 x2 x3 x4 h
    rw [fX11_secrets_22] at h
    cases h
  | succ fu ih =>
    intro x1 x2 x3 x4 h
    rw [fX11_secrets_22] at h
    refine u_iload (pc := 22) F dX11_secrets_22 4 rfl ?_
    refine u_sipush (v := 256) (pc := 24) F dX11_secrets_24 (by decide) ?_
    refine u_icmp_ge (pc := 27) F 72 dX11_secrets_27 (by decide) (fun c3 => ?_) (fun c3 => ?_)
    · rw [if_neg c3] at h
      refine u_iload_n (pc := 72) F dX11_secrets_72 1 rfl rfl ?_
      refine u_if_ne (pc := 73) F 83 dX11_secrets_73 (by decide) (fun c4 => ?_) (fun c4 => ?_)
      · rw [if_neg c4] at h
        refine u_iload_n (pc := 83) F dX11_secrets_83 1 rfl rfl ?_
        refine u_iconst (v := 1) (pc := 84) F dX11_secrets_84 (by decide) ?_
        refine u_icmp_ne (pc := 85) F 92 dX11_secrets_85 (by decide) (fun c5 => ?_) (fun c5 => ?_)
        · rw [if_neg c5] at h
          refine u_iload_n (pc := 92) F dX11_secrets_92 3 rfl rfl ?_
          have h1 := Option.some.inj h
          subst h1
          exact hR _ _ rfl dX11_secrets_93
        · rw [if_pos c5] at h
          refine u_iload_n (pc := 88) F dX11_secrets_88 2 rfl rfl ?_
          refine u_goto (pc := 89) F 93 dX11_secrets_89 (by decide) ?_
          have h1 := Option.some.inj h
          subst h1
          exact hR _ _ rfl dX11_secrets_93
      · rw [if_pos c4] at h
        refine u_aload_n (pc := 76) F dX11_secrets_76 0 rfl rfl ?_
        obtain ⟨q6, hq6, h⟩ := d_bd_some h
        refine u_calli (pc := 77) F (As := []) (c_X11_manySecrets G hL σ mo ((show σ 11 0 = mo from e_mo)) q6 hq6) yv_X11_manySecrets ml_11_326 (hL 11 0 0 (by decide) rfl) rfl (by decide) rfl rfl (Nat.le_of_ble_eq_true rfl) dX11_secrets_77 ?_
        refine u_goto (pc := 80) F 93 dX11_secrets_80 (by decide) ?_
        have h1 := Option.some.inj h
        subst h1
        exact hR _ _ rfl dX11_secrets_93
    · rw [if_pos c3] at h
      refine u_iload_n (pc := 30) F dX11_secrets_30 2 rfl rfl ?_
      refine u_if_ge (pc := 31) F 48 dX11_secrets_31 (by decide) (fun c7 => ?_) (fun c7 => ?_)
      · rw [if_neg c7] at h
        refine u_iload_n (pc := 48) F dX11_secrets_48 2 rfl rfl ?_
        refine u_istore_n (lv' := [(2, .int x2), (0, .ref (adr G (11, 0, 0))), (1, .int x1), (3, .int x3), (4, .int x4)]) (pc := 49) F dX11_secrets_49 rfl hY (by decide) rfl ?_
        refine u_aload_n (pc := 50) F dX11_secrets_50 1 rfl rfl ?_
        refine u_iload (pc := 51) F dX11_secrets_51 4 rfl ?_
        obtain ⟨q8, hq8, h⟩ := d_bd_some h
        refine u_calli (pc := 53) F (As := [.int x4]) (c_X11_couldBe G hL x4 σ mo ((show σ 11 0 = mo from e_mo)) q8 hq8) yv_X11_couldBe ml_11_321 (hL 11 0 0 (by decide) rfl) rfl (by decide) rfl rfl (Nat.le_of_ble_eq_true rfl) dX11_secrets_53 ?_
        obtain ⟨v9, hv9, h⟩ := d_lt_some h
        suffices hj : U Y G σ 65 [(2, .int x2), (0, .ref (adr G (11, 0, 0))), (1, .int x1), (3, .int x3), (4, .int x4)] [.int v9] by
          refine u_if_eq (pc := 56) F 64 dX11_secrets_56 (by decide) (fun c10 => ?_) (fun c10 => ?_)
          · rw [if_pos c10] at hv9
            refine u_iload_n (pc := 64) F dX11_secrets_64 3 rfl rfl ?_
            exact u_topi hv9 hj
          · rw [if_neg c10] at hv9
            refine u_iload (pc := 59) F dX11_secrets_59 4 rfl ?_
            refine u_goto (pc := 61) F 65 dX11_secrets_61 (by decide) ?_
            exact u_topi hv9 hj
        refine u_istore_n (lv' := [(3, .int v9), (2, .int x2), (0, .ref (adr G (11, 0, 0))), (1, .int x1), (4, .int x4)]) (pc := 65) F dX11_secrets_65 rfl hY (by decide) rfl ?_
        obtain ⟨v11, hv11, h⟩ := d_lt_some h
        refine u_iinc (lv' := [(4, .int v11), (3, .int v9), (2, .int x2), (0, .ref (adr G (11, 0, 0))), (1, .int x1)]) (pc := 66) F dX11_secrets_66 4 rfl hv11.symm hY (by decide) rfl ?_
        refine u_goto (pc := 69) F 22 dX11_secrets_69 (by decide) ?_
        refine u_lv (lv' := [(0, .ref (adr G (11, 0, 0))), (1, .int x1), (2, .int x2), (3, .int v9), (4, .int v11)]) [3, 4, 2, 1, 0] rfl ?_
        exact ih x1 x2 v9 v11 h
      · rw [if_pos c7] at h
        refine u_aload_n (pc := 34) F dX11_secrets_34 0 rfl rfl ?_
        refine u_iload (pc := 35) F dX11_secrets_35 4 rfl ?_
        obtain ⟨q12, hq12, h⟩ := d_bd_some h
        refine u_calli (pc := 37) F (As := [.int x4]) (c_X11_couldBe G hL x4 σ mo ((show σ 11 0 = mo from e_mo)) q12 hq12) yv_X11_couldBe ml_11_321 (hL 11 0 0 (by decide) rfl) rfl (by decide) rfl rfl (Nat.le_of_ble_eq_true rfl) dX11_secrets_37 ?_
        refine u_if_eq (pc := 40) F 48 dX11_secrets_40 (by decide) (fun c13 => ?_) (fun c13 => ?_)
        · rw [if_pos c13] at h
          refine u_iload_n (pc := 48) F dX11_secrets_48 2 rfl rfl ?_
          refine u_istore_n (lv' := [(2, .int x2), (0, .ref (adr G (11, 0, 0))), (1, .int x1), (3, .int x3), (4, .int x4)]) (pc := 49) F dX11_secrets_49 rfl hY (by decide) rfl ?_
          refine u_aload_n (pc := 50) F dX11_secrets_50 1 rfl rfl ?_
          refine u_iload (pc := 51) F dX11_secrets_51 4 rfl ?_
          obtain ⟨q14, hq14, h⟩ := d_bd_some h
          refine u_calli (pc := 53) F (As := [.int x4]) (c_X11_couldBe G hL x4 σ mo ((show σ 11 0 = mo from e_mo)) q14 hq14) yv_X11_couldBe ml_11_321 (hL 11 0 0 (by decide) rfl) rfl (by decide) rfl rfl (Nat.le_of_ble_eq_true rfl) dX11_secrets_53 ?_
          obtain ⟨v15, hv15, h⟩ := d_lt_some h
          suffices hj : U Y G σ 65 [(2, .int x2), (0, .ref (adr G (11, 0, 0))), (1, .int x1), (3, .int x3), (4, .int x4)] [.int v15] by
            refine u_if_eq (pc := 56) F 64 dX11_secrets_56 (by decide) (fun c16 => ?_) (fun c16 => ?_)
            · rw [if_pos c16] at hv15
              refine u_iload_n (pc := 64) F dX11_secrets_64 3 rfl rfl ?_
              exact u_topi hv15 hj
            · rw [if_neg c16] at hv15
              refine u_iload (pc := 59) F dX11_secrets_59 4 rfl ?_
              refine u_goto (pc := 61) F 65 dX11_secrets_61 (by decide) ?_
              exact u_topi hv15 hj
          refine u_istore_n (lv' := [(3, .int v15), (2, .int x2), (0, .ref (adr G (11, 0, 0))), (1, .int x1), (4, .int x4)]) (pc := 65) F dX11_secrets_65 rfl hY (by decide) rfl ?_
          obtain ⟨v17, hv17, h⟩ := d_lt_some h
          refine u_iinc (lv' := [(4, .int v17), (3, .int v15), (2, .int x2), (0, .ref (adr G (11, 0, 0))), (1, .int x1)]) (pc := 66) F dX11_secrets_66 4 rfl hv17.symm hY (by decide) rfl ?_
          refine u_goto (pc := 69) F 22 dX11_secrets_69 (by decide) ?_
          refine u_lv (lv' := [(0, .ref (adr G (11, 0, 0))), (1, .int x1), (2, .int x2), (3, .int v15), (4, .int v17)]) [3, 4, 2, 1, 0] rfl ?_
          exact ih x1 x2 v15 v17 h
        · rw [if_neg c13] at h
          refine u_iload (pc := 43) F dX11_secrets_43 4 rfl ?_
          refine u_goto (pc := 45) F 49 dX11_secrets_45 (by decide) ?_
          refine u_istore_n (lv' := [(2, .int x4), (0, .ref (adr G (11, 0, 0))), (1, .int x1), (3, .int x3), (4, .int x4)]) (pc := 49) F dX11_secrets_49 rfl hY (by decide) rfl ?_
          refine u_aload_n (pc := 50) F dX11_secrets_50 1 rfl rfl ?_
          refine u_iload (pc := 51) F dX11_secrets_51 4 rfl ?_
          obtain ⟨q18, hq18, h⟩ := d_bd_some h
          refine u_calli (pc := 53) F (As := [.int x4]) (c_X11_couldBe G hL x4 σ mo ((show σ 11 0 = mo from e_mo)) q18 hq18) yv_X11_couldBe ml_11_321 (hL 11 0 0 (by decide) rfl) rfl (by decide) rfl rfl (Nat.le_of_ble_eq_true rfl) dX11_secrets_53 ?_
          obtain ⟨v19, hv19, h⟩ := d_lt_some h
          suffices hj : U Y G σ 65 [(2, .int x4), (0, .ref (adr G (11, 0, 0))), (1, .int x1), (3, .int x3), (4, .int x4)] [.int v19] by
            refine u_if_eq (pc := 56) F 64 dX11_secrets_56 (by decide) (fun c20 => ?_) (fun c20 => ?_)
            · rw [if_pos c20] at hv19
              refine u_iload_n (pc := 64) F dX11_secrets_64 3 rfl rfl ?_
              exact u_topi hv19 hj
            · rw [if_neg c20] at hv19
              refine u_iload (pc := 59) F dX11_secrets_59 4 rfl ?_
              refine u_goto (pc := 61) F 65 dX11_secrets_61 (by decide) ?_
              exact u_topi hv19 hj
          refine u_istore_n (lv' := [(3, .int v19), (2, .int x4), (0, .ref (adr G (11, 0, 0))), (1, .int x1), (4, .int x4)]) (pc := 65) F dX11_secrets_65 rfl hY (by decide) rfl ?_
          obtain ⟨v21, hv21, h⟩ := d_lt_some h
          refine u_iinc (lv' := [(4, .int v21), (3, .int v19), (2, .int x4), (0, .ref (adr G (11, 0, 0))), (1, .int x1)]) (pc := 66) F dX11_secrets_66 4 rfl hv21.symm hY (by decide) rfl ?_
          refine u_goto (pc := 69) F 22 dX11_secrets_69 (by decide) ?_
          refine u_lv (lv' := [(0, .ref (adr G (11, 0, 0))), (1, .int x1), (2, .int x4), (3, .int v19), (4, .int v21)]) [3, 4, 2, 1, 0] rfl ?_
          exact ih x1 x4 v19 v21 h
set_option maxHeartbeats 4000000 in
set_option maxRecDepth 100000 in
theorem c_X11_secrets (G : G0) (hL : Im G) (x1 : Int32) (σ : Mem) (mo : Grp) (e_mo : σ 11 0 = mo) (r : Int32) (h : fX11_secrets mo x1 = some r) :
    CI G yX11_secrets cX11_secrets 5 .int 4 [.ref (adr G (11, 0, 0)), .int x1] σ r σ := by
  refine CI.of (by decide +kernel) (Nat.le_of_ble_eq_true rfl) (fun Y hY F hR => ?_)
  unfold fX11_secrets at h
  have F : Fx Y G cX11_secrets RX11 4 := F
  refine u_lv (lv' := [(0, .ref (adr G (11, 0, 0))), (1, .int x1)]) [0, 1] rfl ?_
  refine u_iload_n (pc := 0) F dX11_secrets_0 1 rfl rfl ?_
  refine u_i2l (pc := 1) F dX11_secrets_1 ?_
  refine u_lconst (v := 0) (pc := 2) F dX11_secrets_2 (by decide) ?_
  refine u_ldc2 (v := 2) (pc := 3) F dX11_secrets_3 kc_11_324 ?_
  obtain ⟨q1, hq1, h⟩ := d_bd_some h
  refine u_callSi (pc := 6) F (As := [.long (x1.toInt64), .long (0 : Int64), .long (2 : Int64)]) (c_X11_in G hL (x1.toInt64) (0 : Int64) (2 : Int64) σ q1 hq1) ys_X11_in ml_11_105 (by decide) rfl rfl (Nat.le_of_ble_eq_true rfl) dX11_secrets_6 ?_
  refine u_if_ne (pc := 9) F 15 dX11_secrets_9 (by decide) (fun c2 => ?_) (fun c2 => ?_)
  · rw [if_neg c2] at h
    refine u_iconst (v := -1) (pc := 15) F dX11_secrets_15 (by decide) ?_
    refine u_istore_n (lv' := [(2, .int (-1 : Int32)), (0, .ref (adr G (11, 0, 0))), (1, .int x1)]) (pc := 16) F dX11_secrets_16 rfl hY (by decide) rfl ?_
    refine u_iconst (v := -1) (pc := 17) F dX11_secrets_17 (by decide) ?_
    refine u_istore_n (lv' := [(3, .int (-1 : Int32)), (2, .int (-1 : Int32)), (0, .ref (adr G (11, 0, 0))), (1, .int x1)]) (pc := 18) F dX11_secrets_18 rfl hY (by decide) rfl ?_
    refine u_iconst (v := 0) (pc := 19) F dX11_secrets_19 (by decide) ?_
    refine u_istore (lv' := [(4, .int (0 : Int32)), (3, .int (-1 : Int32)), (2, .int (-1 : Int32)), (0, .ref (adr G (11, 0, 0))), (1, .int x1)]) (pc := 20) F dX11_secrets_20 hY (by decide) rfl ?_
    refine u_lv (lv' := [(0, .ref (adr G (11, 0, 0))), (1, .int x1), (2, .int (-1 : Int32)), (3, .int (-1 : Int32)), (4, .int (0 : Int32))]) [3, 4, 2, 1, 0] rfl ?_
    exact wX11_secrets_22 Y G hL σ mo e_mo F hY r hR 1000 x1 (-1 : Int32) (-1 : Int32) (0 : Int32) h
  · rw [if_pos c2] at h
    refine u_ldc (v := -1000000002) (pc := 12) F dX11_secrets_12 kc_11_111 ?_
    have h1 := Option.some.inj h
    subst h1
    exact hR _ _ rfl dX11_secrets_14
/- RollingCodesModel.greatestPart -/
def fX11_greatestPart_26  : Nat → Grp → Int32 → Int32 → Int32 → Option (Int32 × Grp)
  | 0, _, _, _, _ => none
  | fu + 1, mo, x1, x2, x3 =>
    if x3 < (256 : Int32) then (d_bd (fX11_couldBe mo x3) fun q3 => if q3 = 0 then (d_lt (x3 + (1 : Int32)) fun v5 => fX11_greatestPart_26 fu mo x1 x2 v5) else (d_bd (fX11_codeOf x3 x1) fun q6 => d_ab q6 509 <| d_ab q6 509 <| d_lt (wr mo 41 q6.toNatClampNeg ((mo 41 q6.toNatClampNeg) + (1 : Int32))) fun g9 => d_ab q6 509 <| if (g9 41 q6.toNatClampNeg) ≤ x2 then (d_lt (x3 + (1 : Int32)) fun v12 => fX11_greatestPart_26 fu g9 x1 x2 v12) else (d_ab q6 509 <| d_lt (g9 41 q6.toNatClampNeg) fun v14 => d_lt (x3 + (1 : Int32)) fun v15 => fX11_greatestPart_26 fu g9 x1 v14 v15))) else (some (x2, mo))
def fX11_greatestPart_4  : Nat → Grp → Int32 → Int32 → Int32 → Option (Int32 × Grp)
  | 0, _, _, _, _ => none
  | fu + 1, mo, x1, x2, x3 =>
    if x3 < (509 : Int32) then (d_ab x3 509 <| d_lt (wr mo 41 x3.toNatClampNeg (0 : Int32)) fun g17 => d_lt (x3 + (1 : Int32)) fun v18 => fX11_greatestPart_4 fu g17 x1 x2 v18) else (fX11_greatestPart_26 1000 mo x1 x2 (0 : Int32))
def fX11_greatestPart (mo : Grp) (x1 : Int32) : Option (Int32 × Grp) :=
    fX11_greatestPart_4 1000 mo x1 (0 : Int32) (0 : Int32)
set_option maxHeartbeats 4000000 in
set_option maxRecDepth 100000 in
theorem wX11_greatestPart_26 (Y : Dy) (G : G0) (hL : Im G) (σ : Mem) (F : Fx Y G cX11_greatestPart RX11 3) (hY : Y.2.2.2.2.2.2.2.2.2.2.2.1 = 5) (r : Int32) (mo' : Grp) (hR : ∀ (pc : Nat) (lv : List (Nat × Value)), narrow .int (.int r) = .int r → decode cX11_greatestPart pc = .ok (.ireturn, 1) → U Y G (upM σ 11 0 (mo')) pc lv [.int r]) :
    ∀ (fu : Nat) (mo : Grp) (x1 : Int32) (x2 : Int32) (x3 : Int32), fX11_greatestPart_26 fu mo x1 x2 x3 = some (r, mo') → U Y G (upM σ 11 0 mo) 26 [(0, .ref (adr G (11, 0, 0))), (1, .int x1), (2, .int x2), (3, .int x3)] [] := by
  intro fu
  induction fu with
  | zero =>
    intro mo x1 x2 x3 h
    rw [fX11_greatestPart_26] at h
    cases h
  | succ fu ih =>
    intro mo x1 x2 x3 h
    rw [fX11_greatestPart_26] at h
    refine u_iload_n (pc := 26) F dX11_greatestPart_26 3 rfl rfl ?_
    refine u_sipush (v := 256) (pc := 27) F dX11_greatestPart_27 (by decide) ?_
    refine u_icmp_ge (pc := 30) F 88 dX11_greatestPart_30 (by decide) (fun c2 => ?_) (fun c2 => ?_)
    · rw [if_neg c2] at h
      refine u_iload_n (pc := 88) F dX11_greatestPart_88 2 rfl rfl ?_
      have h1 := Option.some.inj h
      obtain ⟨hj0, hr0⟩ := Prod.mk.inj h1
      subst hj0
      subst hr0
      exact hR _ _ rfl dX11_greatestPart_89
    · rw [if_pos c2] at h
      refine u_aload_n (pc := 33) F dX11_greatestPart_33 0 rfl rfl ?_
      refine u_iload_n (pc := 34) F dX11_greatestPart_34 3 rfl rfl ?_
      obtain ⟨q3, hq3, h⟩ := d_bd_some h
      refine u_calli (pc := 35) F (As := [.int x3]) (c_X11_couldBe G hL x3 (upM σ 11 0 mo) mo (upM_same _ _ _ _) q3 hq3) yv_X11_couldBe ml_11_321 (hL 11 0 0 (by decide) rfl) rfl (by decide) rfl rfl (Nat.le_of_ble_eq_true rfl) dX11_greatestPart_35 ?_
      refine u_if_eq (pc := 38) F 82 dX11_greatestPart_38 (by decide) (fun c4 => ?_) (fun c4 => ?_)
      · rw [if_pos c4] at h
        obtain ⟨v5, hv5, h⟩ := d_lt_some h
        refine u_iinc (lv' := [(3, .int v5), (0, .ref (adr G (11, 0, 0))), (1, .int x1), (2, .int x2)]) (pc := 82) F dX11_greatestPart_82 3 rfl hv5.symm hY (by decide) rfl ?_
        refine u_goto (pc := 85) F 26 dX11_greatestPart_85 (by decide) ?_
        refine u_lv (lv' := [(0, .ref (adr G (11, 0, 0))), (1, .int x1), (2, .int x2), (3, .int v5)]) [1, 2, 3, 0] rfl ?_
        exact ih mo x1 x2 v5 h
      · rw [if_neg c4] at h
        refine u_iload_n (pc := 41) F dX11_greatestPart_41 3 rfl rfl ?_
        refine u_iload_n (pc := 42) F dX11_greatestPart_42 1 rfl rfl ?_
        obtain ⟨q6, hq6, h⟩ := d_bd_some h
        refine u_callSi (pc := 43) F (As := [.int x3, .int x1]) (c_X11_codeOf G hL x3 x1 (upM σ 11 0 mo) q6 hq6) ys_X11_codeOf ml_11_193 (by decide) rfl rfl (Nat.le_of_ble_eq_true rfl) dX11_greatestPart_43 ?_
        refine u_istore (lv' := [(4, .int q6), (0, .ref (adr G (11, 0, 0))), (1, .int x1), (2, .int x2), (3, .int x3)]) (pc := 46) F dX11_greatestPart_46 hY (by decide) rfl ?_
        refine u_aload_n (pc := 48) F dX11_greatestPart_48 1 rfl rfl ?_
        refine u_getA (pc := 49) F dX11_greatestPart_49 (hL 11 0 0 (by decide) rfl) ck_11 fl_11_83 rfl (by decide) (by decide) ?_
        refine u_iload (pc := 52) F dX11_greatestPart_52 0 rfl ?_
        refine u_dup2 (pc := 54) F dX11_greatestPart_54 rfl rfl ?_
        obtain ⟨b7, h⟩ := d_ab_some h
        refine u_aldI1 (pc := 55) F dX11_greatestPart_55 (hL 11 0 41 (by decide) rfl) rfl b7 ?_
        refine u_iconst (v := 1) (pc := 56) F dX11_greatestPart_56 (by decide) ?_
        refine u_iadd (pc := 57) F dX11_greatestPart_57 ?_
        obtain ⟨b8, h⟩ := d_ab_some h
        refine u_astI1 (pc := 58) F dX11_greatestPart_58 (hL 11 0 41 (by decide) rfl) rfl b8 ?_
        obtain ⟨g9, hg9, h⟩ := d_lt_some h
        refine u_mem (σ2 := (upM σ 11 0 g9)) (by rw [hg9]) ?_
        refine u_aload_n (pc := 59) F dX11_greatestPart_59 1 rfl rfl ?_
        refine u_getA (pc := 60) F dX11_greatestPart_60 (hL 11 0 0 (by decide) rfl) ck_11 fl_11_83 rfl (by decide) (by decide) ?_
        refine u_iload (pc := 63) F dX11_greatestPart_63 0 rfl ?_
        obtain ⟨b10, h⟩ := d_ab_some h
        refine u_aldI1 (pc := 65) F dX11_greatestPart_65 (hL 11 0 41 (by decide) rfl) rfl b10 ?_
        refine u_iload_n (pc := 66) F dX11_greatestPart_66 3 rfl rfl ?_
        refine u_icmp_le (pc := 67) F 80 dX11_greatestPart_67 (by decide) (fun c11 => ?_) (fun c11 => ?_)
        · rw [if_pos c11] at h
          refine u_iload_n (pc := 80) F dX11_greatestPart_80 3 rfl rfl ?_
          refine u_istore_n (lv' := [(2, .int x2), (4, .int q6), (0, .ref (adr G (11, 0, 0))), (1, .int x1), (3, .int x3)]) (pc := 81) F dX11_greatestPart_81 rfl hY (by decide) rfl ?_
          obtain ⟨v12, hv12, h⟩ := d_lt_some h
          refine u_iinc (lv' := [(3, .int v12), (2, .int x2), (4, .int q6), (0, .ref (adr G (11, 0, 0))), (1, .int x1)]) (pc := 82) F dX11_greatestPart_82 4 rfl hv12.symm hY (by decide) rfl ?_
          refine u_goto (pc := 85) F 26 dX11_greatestPart_85 (by decide) ?_
          refine u_lv (lv' := [(0, .ref (adr G (11, 0, 0))), (1, .int x1), (2, .int x2), (3, .int v12)]) [3, 4, 1, 0] rfl ?_
          exact ih g9 x1 x2 v12 h
        · rw [if_neg c11] at h
          refine u_aload_n (pc := 70) F dX11_greatestPart_70 1 rfl rfl ?_
          refine u_getA (pc := 71) F dX11_greatestPart_71 (hL 11 0 0 (by decide) rfl) ck_11 fl_11_83 rfl (by decide) (by decide) ?_
          refine u_iload (pc := 74) F dX11_greatestPart_74 0 rfl ?_
          obtain ⟨b13, h⟩ := d_ab_some h
          refine u_aldI1 (pc := 76) F dX11_greatestPart_76 (hL 11 0 41 (by decide) rfl) rfl b13 ?_
          refine u_goto (pc := 77) F 81 dX11_greatestPart_77 (by decide) ?_
          obtain ⟨v14, hv14, h⟩ := d_lt_some h
          refine u_topi hv14 ?_
          refine u_istore_n (lv' := [(2, .int v14), (4, .int q6), (0, .ref (adr G (11, 0, 0))), (1, .int x1), (3, .int x3)]) (pc := 81) F dX11_greatestPart_81 rfl hY (by decide) rfl ?_
          obtain ⟨v15, hv15, h⟩ := d_lt_some h
          refine u_iinc (lv' := [(3, .int v15), (2, .int v14), (4, .int q6), (0, .ref (adr G (11, 0, 0))), (1, .int x1)]) (pc := 82) F dX11_greatestPart_82 4 rfl hv15.symm hY (by decide) rfl ?_
          refine u_goto (pc := 85) F 26 dX11_greatestPart_85 (by decide) ?_
          refine u_lv (lv' := [(0, .ref (adr G (11, 0, 0))), (1, .int x1), (2, .int v14), (3, .int v15)]) [3, 4, 1, 0] rfl ?_
          exact ih g9 x1 v14 v15 h
set_option maxHeartbeats 4000000 in
set_option maxRecDepth 100000 in
theorem wX11_greatestPart_4 (Y : Dy) (G : G0) (hL : Im G) (σ : Mem) (F : Fx Y G cX11_greatestPart RX11 3) (hY : Y.2.2.2.2.2.2.2.2.2.2.2.1 = 5) (r : Int32) (mo' : Grp) (hR : ∀ (pc : Nat) (lv : List (Nat × Value)), narrow .int (.int r) = .int r → decode cX11_greatestPart pc = .ok (.ireturn, 1) → U Y G (upM σ 11 0 (mo')) pc lv [.int r]) :
    ∀ (fu : Nat) (mo : Grp) (x1 : Int32) (x2 : Int32) (x3 : Int32), fX11_greatestPart_4 fu mo x1 x2 x3 = some (r, mo') → U Y G (upM σ 11 0 mo) 4 [(0, .ref (adr G (11, 0, 0))), (1, .int x1), (2, .int x2), (3, .int x3)] [] := by
  intro fu
  induction fu with
  | zero =>
    intro mo x1 x2 x3 h
    rw [fX11_greatestPart_4] at h
    cases h
  | succ fu ih =>
    intro mo x1 x2 x3 h
    rw [fX11_greatestPart_4] at h
    refine u_iload_n (pc := 4) F dX11_greatestPart_4 3 rfl rfl ?_
    refine u_sipush (v := 509) (pc := 5) F dX11_greatestPart_5 (by decide) ?_
    refine u_icmp_ge (pc := 8) F 24 dX11_greatestPart_8 (by decide) (fun c1 => ?_) (fun c1 => ?_)
    · rw [if_neg c1] at h
      refine u_iconst (v := 0) (pc := 24) F dX11_greatestPart_24 (by decide) ?_
      refine u_istore_n (lv' := [(3, .int (0 : Int32)), (0, .ref (adr G (11, 0, 0))), (1, .int x1), (2, .int x2)]) (pc := 25) F dX11_greatestPart_25 rfl hY (by decide) rfl ?_
      refine u_lv (lv' := [(0, .ref (adr G (11, 0, 0))), (1, .int x1), (2, .int x2), (3, .int (0 : Int32))]) [1, 2, 3, 0] rfl ?_
      exact wX11_greatestPart_26 Y G hL σ F hY r mo' hR 1000 mo x1 x2 (0 : Int32) h
    · rw [if_pos c1] at h
      refine u_aload_n (pc := 11) F dX11_greatestPart_11 0 rfl rfl ?_
      refine u_getA (pc := 12) F dX11_greatestPart_12 (hL 11 0 0 (by decide) rfl) ck_11 fl_11_83 rfl (by decide) (by decide) ?_
      refine u_iload_n (pc := 15) F dX11_greatestPart_15 3 rfl rfl ?_
      refine u_iconst (v := 0) (pc := 16) F dX11_greatestPart_16 (by decide) ?_
      obtain ⟨b16, h⟩ := d_ab_some h
      refine u_astI1 (pc := 17) F dX11_greatestPart_17 (hL 11 0 41 (by decide) rfl) rfl b16 ?_
      obtain ⟨g17, hg17, h⟩ := d_lt_some h
      refine u_mem (σ2 := (upM σ 11 0 g17)) (by rw [hg17]) ?_
      obtain ⟨v18, hv18, h⟩ := d_lt_some h
      refine u_iinc (lv' := [(3, .int v18), (0, .ref (adr G (11, 0, 0))), (1, .int x1), (2, .int x2)]) (pc := 18) F dX11_greatestPart_18 3 rfl hv18.symm hY (by decide) rfl ?_
      refine u_goto (pc := 21) F 4 dX11_greatestPart_21 (by decide) ?_
      refine u_lv (lv' := [(0, .ref (adr G (11, 0, 0))), (1, .int x1), (2, .int x2), (3, .int v18)]) [1, 2, 3, 0] rfl ?_
      exact ih g17 x1 x2 v18 h
set_option maxHeartbeats 4000000 in
set_option maxRecDepth 100000 in
theorem c_X11_greatestPart (G : G0) (hL : Im G) (x1 : Int32) (σ : Mem) (mo : Grp) (e_mo : σ 11 0 = mo) (r : Int32) (mo' : Grp) (h : fX11_greatestPart mo x1 = some (r, mo')) :
    CI G yX11_greatestPart cX11_greatestPart 5 .int 3 [.ref (adr G (11, 0, 0)), .int x1] σ r (upM σ 11 0 (mo')) := by
  refine CI.of (by decide +kernel) (Nat.le_of_ble_eq_true rfl) (fun Y hY F hR => ?_)
  unfold fX11_greatestPart at h
  have F : Fx Y G cX11_greatestPart RX11 3 := F
  refine u_mem (σ2 := (upM σ 11 0 mo)) (by rw [← e_mo]; simp only [upM_self]) ?_
  refine u_lv (lv' := [(0, .ref (adr G (11, 0, 0))), (1, .int x1)]) [0, 1] rfl ?_
  refine u_iconst (v := 0) (pc := 0) F dX11_greatestPart_0 (by decide) ?_
  refine u_istore_n (lv' := [(2, .int (0 : Int32)), (0, .ref (adr G (11, 0, 0))), (1, .int x1)]) (pc := 1) F dX11_greatestPart_1 rfl hY (by decide) rfl ?_
  refine u_iconst (v := 0) (pc := 2) F dX11_greatestPart_2 (by decide) ?_
  refine u_istore_n (lv' := [(3, .int (0 : Int32)), (2, .int (0 : Int32)), (0, .ref (adr G (11, 0, 0))), (1, .int x1)]) (pc := 3) F dX11_greatestPart_3 rfl hY (by decide) rfl ?_
  refine u_lv (lv' := [(0, .ref (adr G (11, 0, 0))), (1, .int x1), (2, .int (0 : Int32)), (3, .int (0 : Int32))]) [2, 3, 1, 0] rfl ?_
  exact wX11_greatestPart_4 Y G hL σ F hY r mo' hR 1000 mo x1 (0 : Int32) (0 : Int32) h
/- RollingCodesModel.ask -/
def fX11_ask_9  : Nat → Grp → Int32 → Int32 → Int32 → Option (Int32 × Grp)
  | 0, _, _, _, _ => none
  | fu + 1, mo, x1, x2, x3 =>
    if x3 ≤ (60 : Int32) then (d_bd (fX11_greatestPart mo x3) fun q3 => d_lt (if q3.1 < x2 then x3 else x1) fun v4 => d_lt (if q3.1 < x2 then q3.1 else x2) fun v6 => d_lt (x3 + (1 : Int32)) fun v8 => fX11_ask_9 fu q3.2 v4 v6 v8) else (some (x1, mo))
def fX11_ask (mo : Grp) : Option (Int32 × Grp) :=
    d_bd (fX11_manySecrets mo) fun q1 => fX11_ask_9 1000 mo (-1 : Int32) q1 (0 : Int32)
set_option maxHeartbeats 4000000 in
set_option maxRecDepth 100000 in
theorem wX11_ask_9 (Y : Dy) (G : G0) (hL : Im G) (σ : Mem) (F : Fx Y G cX11_ask RX11 4) (hY : Y.2.2.2.2.2.2.2.2.2.2.2.1 = 5) (r : Int32) (mo' : Grp) (hR : ∀ (pc : Nat) (lv : List (Nat × Value)), narrow .int (.int r) = .int r → decode cX11_ask pc = .ok (.ireturn, 1) → U Y G (upM σ 11 0 (mo')) pc lv [.int r]) :
    ∀ (fu : Nat) (mo : Grp) (x1 : Int32) (x2 : Int32) (x3 : Int32), fX11_ask_9 fu mo x1 x2 x3 = some (r, mo') → U Y G (upM σ 11 0 mo) 9 [(0, .ref (adr G (11, 0, 0))), (1, .int x1), (2, .int x2), (3, .int x3)] [] := by
  intro fu
  induction fu with
  | zero =>
    intro mo x1 x2 x3 h
    rw [fX11_ask_9] at h
    cases h
  | succ fu ih =>
    intro mo x1 x2 x3 h
    rw [fX11_ask_9] at h
    refine u_iload_n (pc := 9) F dX11_ask_9 3 rfl rfl ?_
    refine u_bipush (v := 60) (pc := 10) F dX11_ask_10 (by decide) ?_
    refine u_icmp_gt (pc := 12) F 53 dX11_ask_12 (by decide) (fun c2 => ?_) (fun c2 => ?_)
    · rw [if_neg c2] at h
      refine u_iload_n (pc := 53) F dX11_ask_53 1 rfl rfl ?_
      have h1 := Option.some.inj h
      obtain ⟨hj0, hr0⟩ := Prod.mk.inj h1
      subst hj0
      subst hr0
      exact hR _ _ rfl dX11_ask_54
    · rw [if_pos c2] at h
      refine u_aload_n (pc := 15) F dX11_ask_15 0 rfl rfl ?_
      refine u_iload_n (pc := 16) F dX11_ask_16 3 rfl rfl ?_
      obtain ⟨q3, hq3, h⟩ := d_bd_some h
      refine u_calli (pc := 17) F (As := [.int x3]) (c_X11_greatestPart G hL x3 (upM σ 11 0 mo) mo (upM_same _ _ _ _) q3.1 q3.2 hq3) yv_X11_greatestPart ml_11_329 (hL 11 0 0 (by decide) rfl) rfl (by decide) rfl rfl (Nat.le_of_ble_eq_true rfl) dX11_ask_17 ?_
      refine u_mem (σ2 := (upM σ 11 0 q3.2)) (by first | (rw [upM_upM]; done) | (rw [upM_mid _ _ _ _ (by decide)]; done) | (rw [upM_mid _ _ _ _ (by decide), upM_upM]; done) | (rw [upM_mid _ _ _ _ (by decide), upM_mid _ _ _ _ (by decide)]; done)) ?_
      refine u_istore (lv' := [(4, .int q3.1), (0, .ref (adr G (11, 0, 0))), (1, .int x1), (2, .int x2), (3, .int x3)]) (pc := 20) F dX11_ask_20 hY (by decide) rfl ?_
      refine u_iload (pc := 22) F dX11_ask_22 0 rfl ?_
      refine u_iload_n (pc := 24) F dX11_ask_24 3 rfl rfl ?_
      obtain ⟨v4, hv4, h⟩ := d_lt_some h
      suffices hj : U Y G (upM σ 11 0 q3.2) 33 [(4, .int q3.1), (0, .ref (adr G (11, 0, 0))), (1, .int x1), (2, .int x2), (3, .int x3)] [.int v4] by
        refine u_icmp_ge (pc := 25) F 32 dX11_ask_25 (by decide) (fun c5 => ?_) (fun c5 => ?_)
        · rw [if_neg c5] at hv4
          refine u_iload_n (pc := 32) F dX11_ask_32 2 rfl rfl ?_
          exact u_topi hv4 hj
        · rw [if_pos c5] at hv4
          refine u_iload_n (pc := 28) F dX11_ask_28 4 rfl rfl ?_
          refine u_goto (pc := 29) F 33 dX11_ask_29 (by decide) ?_
          exact u_topi hv4 hj
      refine u_istore_n (lv' := [(1, .int v4), (4, .int q3.1), (0, .ref (adr G (11, 0, 0))), (2, .int x2), (3, .int x3)]) (pc := 33) F dX11_ask_33 rfl hY (by decide) rfl ?_
      refine u_iload (pc := 34) F dX11_ask_34 1 rfl ?_
      refine u_iload_n (pc := 36) F dX11_ask_36 3 rfl rfl ?_
      obtain ⟨v6, hv6, h⟩ := d_lt_some h
      suffices hj : U Y G (upM σ 11 0 q3.2) 46 [(1, .int v4), (4, .int q3.1), (0, .ref (adr G (11, 0, 0))), (2, .int x2), (3, .int x3)] [.int v6] by
        refine u_icmp_ge (pc := 37) F 45 dX11_ask_37 (by decide) (fun c7 => ?_) (fun c7 => ?_)
        · rw [if_neg c7] at hv6
          refine u_iload_n (pc := 45) F dX11_ask_45 3 rfl rfl ?_
          exact u_topi hv6 hj
        · rw [if_pos c7] at hv6
          refine u_iload (pc := 40) F dX11_ask_40 1 rfl ?_
          refine u_goto (pc := 42) F 46 dX11_ask_42 (by decide) ?_
          exact u_topi hv6 hj
      refine u_istore_n (lv' := [(2, .int v6), (1, .int v4), (4, .int q3.1), (0, .ref (adr G (11, 0, 0))), (3, .int x3)]) (pc := 46) F dX11_ask_46 rfl hY (by decide) rfl ?_
      obtain ⟨v8, hv8, h⟩ := d_lt_some h
      refine u_iinc (lv' := [(3, .int v8), (2, .int v6), (1, .int v4), (4, .int q3.1), (0, .ref (adr G (11, 0, 0)))]) (pc := 47) F dX11_ask_47 4 rfl hv8.symm hY (by decide) rfl ?_
      refine u_goto (pc := 50) F 9 dX11_ask_50 (by decide) ?_
      refine u_lv (lv' := [(0, .ref (adr G (11, 0, 0))), (1, .int v4), (2, .int v6), (3, .int v8)]) [4, 2, 1, 0] rfl ?_
      exact ih q3.2 v4 v6 v8 h
set_option maxHeartbeats 4000000 in
set_option maxRecDepth 100000 in
theorem c_X11_ask (G : G0) (hL : Im G) (σ : Mem) (mo : Grp) (e_mo : σ 11 0 = mo) (r : Int32) (mo' : Grp) (h : fX11_ask mo = some (r, mo')) :
    CI G yX11_ask cX11_ask 5 .int 4 [.ref (adr G (11, 0, 0))] σ r (upM σ 11 0 (mo')) := by
  refine CI.of (by decide +kernel) (Nat.le_of_ble_eq_true rfl) (fun Y hY F hR => ?_)
  unfold fX11_ask at h
  have F : Fx Y G cX11_ask RX11 4 := F
  refine u_mem (σ2 := (upM σ 11 0 mo)) (by rw [← e_mo]; simp only [upM_self]) ?_
  refine u_lv (lv' := [(0, .ref (adr G (11, 0, 0)))]) [0] rfl ?_
  refine u_iconst (v := -1) (pc := 0) F dX11_ask_0 (by decide) ?_
  refine u_istore_n (lv' := [(1, .int (-1 : Int32)), (0, .ref (adr G (11, 0, 0)))]) (pc := 1) F dX11_ask_1 rfl hY (by decide) rfl ?_
  refine u_aload_n (pc := 2) F dX11_ask_2 1 rfl rfl ?_
  obtain ⟨q1, hq1, h⟩ := d_bd_some h
  refine u_calli (pc := 3) F (As := []) (c_X11_manySecrets G hL (upM σ 11 0 mo) mo (upM_same _ _ _ _) q1 hq1) yv_X11_manySecrets ml_11_326 (hL 11 0 0 (by decide) rfl) rfl (by decide) rfl rfl (Nat.le_of_ble_eq_true rfl) dX11_ask_3 ?_
  refine u_istore_n (lv' := [(2, .int q1), (1, .int (-1 : Int32)), (0, .ref (adr G (11, 0, 0)))]) (pc := 6) F dX11_ask_6 rfl hY (by decide) rfl ?_
  refine u_iconst (v := 0) (pc := 7) F dX11_ask_7 (by decide) ?_
  refine u_istore_n (lv' := [(3, .int (0 : Int32)), (2, .int q1), (1, .int (-1 : Int32)), (0, .ref (adr G (11, 0, 0)))]) (pc := 8) F dX11_ask_8 rfl hY (by decide) rfl ?_
  refine u_lv (lv' := [(0, .ref (adr G (11, 0, 0))), (1, .int (-1 : Int32)), (2, .int q1), (3, .int (0 : Int32))]) [3, 2, 1, 0] rfl ?_
  exact wX11_ask_9 Y G hL σ F hY r mo' hR 1000 mo (-1 : Int32) q1 (0 : Int32) h
/- RollingCodesModel.write -/
def fX11_write (mo : Grp) (x1 : Int32) (x2 : Int32) : Option (Int32 × Grp) :=
    d_bd (fX11_isGate mo x1) fun q1 => if q1 = 0 then (some ((-1000000001 : Int32), mo)) else (d_bd (fX11_in (x2.toInt64) (0 : Int64) (9999 : Int64)) fun q3 => if q3 = 0 then (some ((-1000000002 : Int32), mo)) else (if (mo 0 41) = (15 : Int32) then (some ((-1000000004 : Int32), mo)) else (d_ab (mo 0 41) 15 <| d_lt (wr mo 43 (mo 0 41).toNatClampNeg x1) fun g7 => d_ab (g7 0 41) 15 <| d_lt (wr g7 44 (g7 0 41).toNatClampNeg x2) fun g9 => d_lt (wr g9 0 41 ((g9 0 41) + (1 : Int32))) fun g10 => some (g10 0 41, g10))))
set_option maxHeartbeats 4000000 in
set_option maxRecDepth 100000 in
theorem c_X11_write (G : G0) (hL : Im G) (x1 : Int32) (x2 : Int32) (σ : Mem) (mo : Grp) (e_mo : σ 11 0 = mo) (r : Int32) (mo' : Grp) (h : fX11_write mo x1 x2 = some (r, mo')) :
    CI G yX11_write cX11_write 3 .int 3 [.ref (adr G (11, 0, 0)), .int x1, .int x2] σ r (upM σ 11 0 (mo')) := by
  refine CI.of (by decide +kernel) (Nat.le_of_ble_eq_true rfl) (fun Y hY F hR => ?_)
  unfold fX11_write at h
  have F : Fx Y G cX11_write RX11 3 := F
  refine u_mem (σ2 := (upM σ 11 0 mo)) (by rw [← e_mo]; simp only [upM_self]) ?_
  refine u_lv (lv' := [(0, .ref (adr G (11, 0, 0))), (1, .int x1), (2, .int x2)]) [0, 1, 2] rfl ?_
  refine u_aload_n (pc := 0) F dX11_write_0 0 rfl rfl ?_
  refine u_iload_n (pc := 1) F dX11_write_1 1 rfl rfl ?_
  obtain ⟨q1, hq1, h⟩ := d_bd_some h
  refine u_calli (pc := 2) F (As := [.int x1]) (c_X11_isGate G hL x1 (upM σ 11 0 mo) mo (upM_same _ _ _ _) q1 hq1) yv_X11_isGate ml_11_242 (hL 11 0 0 (by decide) rfl) rfl (by decide) rfl rfl (Nat.le_of_ble_eq_true rfl) dX11_write_2 ?_
  refine u_if_ne (pc := 5) F 11 dX11_write_5 (by decide) (fun c2 => ?_) (fun c2 => ?_)
  · rw [if_neg c2] at h
    refine u_iload_n (pc := 11) F dX11_write_11 2 rfl rfl ?_
    refine u_i2l (pc := 12) F dX11_write_12 ?_
    refine u_lconst (v := 0) (pc := 13) F dX11_write_13 (by decide) ?_
    refine u_ldc2 (v := 9999) (pc := 14) F dX11_write_14 kc_11_191 ?_
    obtain ⟨q3, hq3, h⟩ := d_bd_some h
    refine u_callSi (pc := 17) F (As := [.long (x2.toInt64), .long (0 : Int64), .long (9999 : Int64)]) (c_X11_in G hL (x2.toInt64) (0 : Int64) (9999 : Int64) (upM σ 11 0 mo) q3 hq3) ys_X11_in ml_11_105 (by decide) rfl rfl (Nat.le_of_ble_eq_true rfl) dX11_write_17 ?_
    refine u_if_ne (pc := 20) F 26 dX11_write_20 (by decide) (fun c4 => ?_) (fun c4 => ?_)
    · rw [if_neg c4] at h
      refine u_aload_n (pc := 26) F dX11_write_26 0 rfl rfl ?_
      refine u_get1 (pc := 27) F dX11_write_27 (hL 11 0 0 (by decide) rfl) ck_11 fl_11_185 rfl (by decide) ?_
      refine u_bipush (v := 15) (pc := 30) F dX11_write_30 (by decide) ?_
      refine u_icmp_ne (pc := 32) F 38 dX11_write_32 (by decide) (fun c5 => ?_) (fun c5 => ?_)
      · rw [if_neg c5] at h
        refine u_aload_n (pc := 38) F dX11_write_38 0 rfl rfl ?_
        refine u_getA (pc := 39) F dX11_write_39 (hL 11 0 0 (by decide) rfl) ck_11 fl_11_86 rfl (by decide) (by decide) ?_
        refine u_aload_n (pc := 42) F dX11_write_42 0 rfl rfl ?_
        refine u_get1 (pc := 43) F dX11_write_43 (hL 11 0 0 (by decide) rfl) ck_11 fl_11_185 rfl (by decide) ?_
        refine u_iload_n (pc := 46) F dX11_write_46 1 rfl rfl ?_
        obtain ⟨b6, h⟩ := d_ab_some h
        refine u_astI1 (pc := 47) F dX11_write_47 (hL 11 0 43 (by decide) rfl) rfl b6 ?_
        obtain ⟨g7, hg7, h⟩ := d_lt_some h
        refine u_mem (σ2 := (upM σ 11 0 g7)) (by rw [hg7]) ?_
        refine u_aload_n (pc := 48) F dX11_write_48 0 rfl rfl ?_
        refine u_getA (pc := 49) F dX11_write_49 (hL 11 0 0 (by decide) rfl) ck_11 fl_11_89 rfl (by decide) (by decide) ?_
        refine u_aload_n (pc := 52) F dX11_write_52 0 rfl rfl ?_
        refine u_get1 (pc := 53) F dX11_write_53 (hL 11 0 0 (by decide) rfl) ck_11 fl_11_185 rfl (by decide) ?_
        refine u_iload_n (pc := 56) F dX11_write_56 2 rfl rfl ?_
        obtain ⟨b8, h⟩ := d_ab_some h
        refine u_astI1 (pc := 57) F dX11_write_57 (hL 11 0 44 (by decide) rfl) rfl b8 ?_
        obtain ⟨g9, hg9, h⟩ := d_lt_some h
        refine u_mem (σ2 := (upM σ 11 0 g9)) (by rw [hg9]) ?_
        refine u_aload_n (pc := 58) F dX11_write_58 0 rfl rfl ?_
        refine u_dup (pc := 59) F dX11_write_59 rfl ?_
        refine u_get1 (pc := 60) F dX11_write_60 (hL 11 0 0 (by decide) rfl) ck_11 fl_11_185 rfl (by decide) ?_
        refine u_iconst (v := 1) (pc := 63) F dX11_write_63 (by decide) ?_
        refine u_iadd (pc := 64) F dX11_write_64 ?_
        refine u_put1 (pc := 65) F dX11_write_65 (hL 11 0 0 (by decide) rfl) ck_11 fl_11_185 rfl (by decide) rfl (ty0 := .int) (by decide +kernel) rfl rfl ?_
        obtain ⟨g10, hg10, h⟩ := d_lt_some h
        refine u_mem (σ2 := (upM σ 11 0 g10)) (by rw [hg10]) ?_
        refine u_aload_n (pc := 68) F dX11_write_68 0 rfl rfl ?_
        refine u_get1 (pc := 69) F dX11_write_69 (hL 11 0 0 (by decide) rfl) ck_11 fl_11_185 rfl (by decide) ?_
        have h1 := Option.some.inj h
        obtain ⟨hj0, hr0⟩ := Prod.mk.inj h1
        subst hj0
        subst hr0
        exact hR _ _ rfl dX11_write_72
      · rw [if_pos c5] at h
        refine u_ldc (v := -1000000004) (pc := 35) F dX11_write_35 kc_11_115 ?_
        have h1 := Option.some.inj h
        obtain ⟨hj0, hr0⟩ := Prod.mk.inj h1
        subst hj0
        subst hr0
        exact hR _ _ rfl dX11_write_37
    · rw [if_pos c4] at h
      refine u_ldc (v := -1000000002) (pc := 23) F dX11_write_23 kc_11_111 ?_
      have h1 := Option.some.inj h
      obtain ⟨hj0, hr0⟩ := Prod.mk.inj h1
      subst hj0
      subst hr0
      exact hR _ _ rfl dX11_write_25
  · rw [if_pos c2] at h
    refine u_ldc (v := -1000000001) (pc := 8) F dX11_write_8 kc_11_237 ?_
    have h1 := Option.some.inj h
    obtain ⟨hj0, hr0⟩ := Prod.mk.inj h1
    subst hj0
    subst hr0
    exact hR _ _ rfl dX11_write_10
/- RollingCodesModel.tear -/
def fX11_tear (mo : Grp) : Option (Int32 × Grp) :=
    d_lt ((mo 0 37) + (mo 0 41)) fun v1 => d_lt (wr mo 0 37 (0 : Int32)) fun g2 => d_lt (wr g2 0 41 (0 : Int32)) fun g3 => some (v1, g3)
set_option maxHeartbeats 4000000 in
set_option maxRecDepth 100000 in
theorem c_X11_tear (G : G0) (hL : Im G) (σ : Mem) (mo : Grp) (e_mo : σ 11 0 = mo) (r : Int32) (mo' : Grp) (h : fX11_tear mo = some (r, mo')) :
    CI G yX11_tear cX11_tear 2 .int 1 [.ref (adr G (11, 0, 0))] σ r (upM σ 11 0 (mo')) := by
  refine CI.of (by decide +kernel) (Nat.le_of_ble_eq_true rfl) (fun Y hY F hR => ?_)
  unfold fX11_tear at h
  have F : Fx Y G cX11_tear RX11 1 := F
  refine u_mem (σ2 := (upM σ 11 0 mo)) (by rw [← e_mo]; simp only [upM_self]) ?_
  refine u_lv (lv' := [(0, .ref (adr G (11, 0, 0)))]) [0] rfl ?_
  refine u_aload_n (pc := 0) F dX11_tear_0 0 rfl rfl ?_
  refine u_get1 (pc := 1) F dX11_tear_1 (hL 11 0 0 (by decide) rfl) ck_11 fl_11_182 rfl (by decide) ?_
  refine u_aload_n (pc := 4) F dX11_tear_4 0 rfl rfl ?_
  refine u_get1 (pc := 5) F dX11_tear_5 (hL 11 0 0 (by decide) rfl) ck_11 fl_11_185 rfl (by decide) ?_
  refine u_iadd (pc := 8) F dX11_tear_8 ?_
  obtain ⟨v1, hv1, h⟩ := d_lt_some h
  refine u_topi hv1 ?_
  refine u_istore_n (lv' := [(1, .int v1), (0, .ref (adr G (11, 0, 0)))]) (pc := 9) F dX11_tear_9 rfl hY (by decide) rfl ?_
  refine u_aload_n (pc := 10) F dX11_tear_10 1 rfl rfl ?_
  refine u_iconst (v := 0) (pc := 11) F dX11_tear_11 (by decide) ?_
  refine u_put1 (pc := 12) F dX11_tear_12 (hL 11 0 0 (by decide) rfl) ck_11 fl_11_182 rfl (by decide) rfl (ty0 := .int) (by decide +kernel) rfl rfl ?_
  obtain ⟨g2, hg2, h⟩ := d_lt_some h
  refine u_mem (σ2 := (upM σ 11 0 g2)) (by rw [hg2]) ?_
  refine u_aload_n (pc := 15) F dX11_tear_15 1 rfl rfl ?_
  refine u_iconst (v := 0) (pc := 16) F dX11_tear_16 (by decide) ?_
  refine u_put1 (pc := 17) F dX11_tear_17 (hL 11 0 0 (by decide) rfl) ck_11 fl_11_185 rfl (by decide) rfl (ty0 := .int) (by decide +kernel) rfl rfl ?_
  obtain ⟨g3, hg3, h⟩ := d_lt_some h
  refine u_mem (σ2 := (upM σ 11 0 g3)) (by rw [hg3]) ?_
  refine u_iload_n (pc := 20) F dX11_tear_20 0 rfl rfl ?_
  have h1 := Option.some.inj h
  obtain ⟨hj0, hr0⟩ := Prod.mk.inj h1
  subst hj0
  subst hr0
  exact hR _ _ rfl dX11_tear_21
/- RollingCodesModel.judge -/
def fX11_judge_2 (mo : Grp) : Nat → Int32 → Option (Int32)
  | 0, _ => none
  | fu + 1, x1 =>
    if x1 < (mo 0 41) then (d_ab x1 15 <| d_ab ((26 : Int32) + (mo 43 x1.toNatClampNeg)) 59 <| d_ab x1 15 <| if (mo 14 ((26 : Int32) + (mo 43 x1.toNatClampNeg)).toNatClampNeg) = (mo 44 x1.toNatClampNeg) then (d_lt (x1 + (1 : Int32)) fun v6 => fX11_judge_2 mo fu v6) else (some x1)) else (some (-1 : Int32))
def fX11_judge (mo : Grp) : Option (Int32) :=
    fX11_judge_2 mo 1000 (0 : Int32)
set_option maxHeartbeats 4000000 in
set_option maxRecDepth 100000 in
theorem wX11_judge_2 (Y : Dy) (G : G0) (hL : Im G) (σ : Mem) (mo : Grp) (e_mo : σ 11 0 = mo) (F : Fx Y G cX11_judge RX11 1) (hY : Y.2.2.2.2.2.2.2.2.2.2.2.1 = 2) (r : Int32) (hR : ∀ (pc : Nat) (lv : List (Nat × Value)), narrow .int (.int r) = .int r → decode cX11_judge pc = .ok (.ireturn, 1) → U Y G σ pc lv [.int r]) :
    ∀ (fu : Nat) (x1 : Int32), fX11_judge_2 mo fu x1 = some r → U Y G σ 2 [(0, .ref (adr G (11, 0, 0))), (1, .int x1)] [] := by
  intro fu
  induction fu with
  | zero =>
    intro x1 h
    rw [fX11_judge_2] at h
    cases h
  | succ fu ih =>
    intro x1 h
    rw [fX11_judge_2] at h
    refine u_iload_n (pc := 2) F dX11_judge_2 1 rfl rfl ?_
    refine u_aload_n (pc := 3) F dX11_judge_3 0 rfl rfl ?_
    refine u_get (v := mo 0 41) (pc := 4) F dX11_judge_4 (hL 11 0 0 (by decide) rfl) ck_11 fl_11_185 rfl (by decide) (congrFun (congrFun (show σ 11 0 = mo from e_mo) 0) 41) ?_
    refine u_icmp_ge (pc := 7) F 41 dX11_judge_7 (by decide) (fun c1 => ?_) (fun c1 => ?_)
    · rw [if_neg c1] at h
      refine u_iconst (v := -1) (pc := 41) F dX11_judge_41 (by decide) ?_
      have h1 := Option.some.inj h
      subst h1
      exact hR _ _ rfl dX11_judge_42
    · rw [if_pos c1] at h
      refine u_aload_n (pc := 10) F dX11_judge_10 0 rfl rfl ?_
      refine u_getA (pc := 11) F dX11_judge_11 (hL 11 0 0 (by decide) rfl) ck_11 fl_11_34 rfl (by decide) (by decide) ?_
      refine u_bipush (v := 26) (pc := 14) F dX11_judge_14 (by decide) ?_
      refine u_aload_n (pc := 16) F dX11_judge_16 0 rfl rfl ?_
      refine u_getA (pc := 17) F dX11_judge_17 (hL 11 0 0 (by decide) rfl) ck_11 fl_11_86 rfl (by decide) (by decide) ?_
      refine u_iload_n (pc := 20) F dX11_judge_20 1 rfl rfl ?_
      obtain ⟨b2, h⟩ := d_ab_some h
      refine u_aldI (v := mo 43 x1.toNatClampNeg) (pc := 21) F dX11_judge_21 (hL 11 0 43 (by decide) rfl) rfl b2 (congrFun (congrFun (show σ 11 0 = mo from e_mo) 43) _) ?_
      refine u_iadd (pc := 22) F dX11_judge_22 ?_
      obtain ⟨b3, h⟩ := d_ab_some h
      refine u_aldI (v := mo 14 ((26 : Int32) + (mo 43 x1.toNatClampNeg)).toNatClampNeg) (pc := 23) F dX11_judge_23 (hL 11 0 14 (by decide) rfl) rfl b3 (congrFun (congrFun (show σ 11 0 = mo from e_mo) 14) _) ?_
      refine u_aload_n (pc := 24) F dX11_judge_24 0 rfl rfl ?_
      refine u_getA (pc := 25) F dX11_judge_25 (hL 11 0 0 (by decide) rfl) ck_11 fl_11_89 rfl (by decide) (by decide) ?_
      refine u_iload_n (pc := 28) F dX11_judge_28 1 rfl rfl ?_
      obtain ⟨b4, h⟩ := d_ab_some h
      refine u_aldI (v := mo 44 x1.toNatClampNeg) (pc := 29) F dX11_judge_29 (hL 11 0 44 (by decide) rfl) rfl b4 (congrFun (congrFun (show σ 11 0 = mo from e_mo) 44) _) ?_
      refine u_icmp_eq (pc := 30) F 35 dX11_judge_30 (by decide) (fun c5 => ?_) (fun c5 => ?_)
      · rw [if_pos c5] at h
        obtain ⟨v6, hv6, h⟩ := d_lt_some h
        refine u_iinc (lv' := [(1, .int v6), (0, .ref (adr G (11, 0, 0)))]) (pc := 35) F dX11_judge_35 1 rfl hv6.symm hY (by decide) rfl ?_
        refine u_goto (pc := 38) F 2 dX11_judge_38 (by decide) ?_
        refine u_lv (lv' := [(0, .ref (adr G (11, 0, 0))), (1, .int v6)]) [1, 0] rfl ?_
        exact ih v6 h
      · rw [if_neg c5] at h
        refine u_iload_n (pc := 33) F dX11_judge_33 1 rfl rfl ?_
        have h1 := Option.some.inj h
        subst h1
        exact hR _ _ rfl dX11_judge_34
set_option maxHeartbeats 4000000 in
set_option maxRecDepth 100000 in
theorem c_X11_judge (G : G0) (hL : Im G) (σ : Mem) (mo : Grp) (e_mo : σ 11 0 = mo) (r : Int32) (h : fX11_judge mo = some r) :
    CI G yX11_judge cX11_judge 2 .int 1 [.ref (adr G (11, 0, 0))] σ r σ := by
  refine CI.of (by decide +kernel) (Nat.le_of_ble_eq_true rfl) (fun Y hY F hR => ?_)
  unfold fX11_judge at h
  have F : Fx Y G cX11_judge RX11 1 := F
  refine u_lv (lv' := [(0, .ref (adr G (11, 0, 0)))]) [0] rfl ?_
  refine u_iconst (v := 0) (pc := 0) F dX11_judge_0 (by decide) ?_
  refine u_istore_n (lv' := [(1, .int (0 : Int32)), (0, .ref (adr G (11, 0, 0)))]) (pc := 1) F dX11_judge_1 rfl hY (by decide) rfl ?_
  refine u_lv (lv' := [(0, .ref (adr G (11, 0, 0))), (1, .int (0 : Int32))]) [1, 0] rfl ?_
  exact wX11_judge_2 Y G hL σ mo e_mo F hY r hR 1000 (0 : Int32) h
/- RollingCodesModel.seed -/
def fX11_seed (mo : Grp) (x1 : Int32) : Option (Int32 × Grp) :=
    if x1 < 0 then (some ((-1000000002 : Int32), mo)) else (d_lt (mo 0 14) fun v2 => d_lt (wr mo 0 14 x1) fun g3 => some (v2, g3))
set_option maxHeartbeats 4000000 in
set_option maxRecDepth 100000 in
theorem c_X11_seed (G : G0) (hL : Im G) (x1 : Int32) (σ : Mem) (mo : Grp) (e_mo : σ 11 0 = mo) (r : Int32) (mo' : Grp) (h : fX11_seed mo x1 = some (r, mo')) :
    CI G yX11_seed cX11_seed 3 .int 1 [.ref (adr G (11, 0, 0)), .int x1] σ r (upM σ 11 0 (mo')) := by
  refine CI.of (by decide +kernel) (Nat.le_of_ble_eq_true rfl) (fun Y hY F hR => ?_)
  unfold fX11_seed at h
  have F : Fx Y G cX11_seed RX11 1 := F
  refine u_mem (σ2 := (upM σ 11 0 mo)) (by rw [← e_mo]; simp only [upM_self]) ?_
  refine u_lv (lv' := [(0, .ref (adr G (11, 0, 0))), (1, .int x1)]) [0, 1] rfl ?_
  refine u_iload_n (pc := 0) F dX11_seed_0 1 rfl rfl ?_
  refine u_if_ge (pc := 1) F 7 dX11_seed_1 (by decide) (fun c1 => ?_) (fun c1 => ?_)
  · rw [if_neg c1] at h
    refine u_aload_n (pc := 7) F dX11_seed_7 0 rfl rfl ?_
    refine u_get1 (pc := 8) F dX11_seed_8 (hL 11 0 0 (by decide) rfl) ck_11 fl_11_257 rfl (by decide) ?_
    obtain ⟨v2, hv2, h⟩ := d_lt_some h
    refine u_topi hv2 ?_
    refine u_istore_n (lv' := [(2, .int v2), (0, .ref (adr G (11, 0, 0))), (1, .int x1)]) (pc := 11) F dX11_seed_11 rfl hY (by decide) rfl ?_
    refine u_aload_n (pc := 12) F dX11_seed_12 1 rfl rfl ?_
    refine u_iload_n (pc := 13) F dX11_seed_13 2 rfl rfl ?_
    refine u_put1 (pc := 14) F dX11_seed_14 (hL 11 0 0 (by decide) rfl) ck_11 fl_11_257 rfl (by decide) rfl (ty0 := .int) (by decide +kernel) rfl rfl ?_
    obtain ⟨g3, hg3, h⟩ := d_lt_some h
    refine u_mem (σ2 := (upM σ 11 0 g3)) (by rw [hg3]) ?_
    refine u_iload_n (pc := 17) F dX11_seed_17 0 rfl rfl ?_
    have h1 := Option.some.inj h
    obtain ⟨hj0, hr0⟩ := Prod.mk.inj h1
    subst hj0
    subst hr0
    exact hR _ _ rfl dX11_seed_18
  · rw [if_pos c1] at h
    refine u_ldc (v := -1000000002) (pc := 4) F dX11_seed_4 kc_11_111 ?_
    have h1 := Option.some.inj h
    obtain ⟨hj0, hr0⟩ := Prod.mk.inj h1
    subst hj0
    subst hr0
    exact hR _ _ rfl dX11_seed_6
/- RollingCodesModel.keep -/
def fX11_keep_15  : Nat → Grp → Int32 → Int32 → Option (Int32 × Grp)
  | 0, _, _, _ => none
  | fu + 1, mo, x1, x2 =>
    if x2 < (59 : Int32) then (d_ab x2 59 <| d_ab (((60 : Int32) * x1) + x2) 120 <| d_lt (wr mo 45 (((60 : Int32) * x1) + x2).toNatClampNeg (mo 14 x2.toNatClampNeg)) fun g11 => d_lt (x2 + (1 : Int32)) fun v12 => fX11_keep_15 fu g11 x1 v12) else (d_ab (((60 : Int32) * x1) + (59 : Int32)) 120 <| d_lt (wr mo 45 (((60 : Int32) * x1) + (59 : Int32)).toNatClampNeg (mo 0 14)) fun g5 => d_ab x1 2 <| d_lt (wr g5 46 x1.toNatClampNeg (1 : Int32)) fun g7 => d_lt (wr g7 0 32 (0 : Int32)) fun g8 => some ((1 : Int32), g8))
def fX11_keep (mo : Grp) (x1 : Int32) : Option (Int32 × Grp) :=
    d_bd (fX11_in (x1.toInt64) (0 : Int64) (1 : Int64)) fun q1 => if q1 = 0 then (some ((-1000000001 : Int32), mo)) else (fX11_keep_15 1000 mo x1 (0 : Int32))
set_option maxHeartbeats 4000000 in
set_option maxRecDepth 100000 in
theorem wX11_keep_15 (Y : Dy) (G : G0) (hL : Im G) (σ : Mem) (F : Fx Y G cX11_keep RX11 2) (hY : Y.2.2.2.2.2.2.2.2.2.2.2.1 = 3) (r : Int32) (mo' : Grp) (hR : ∀ (pc : Nat) (lv : List (Nat × Value)), narrow .int (.int r) = .int r → decode cX11_keep pc = .ok (.ireturn, 1) → U Y G (upM σ 11 0 (mo')) pc lv [.int r]) :
    ∀ (fu : Nat) (mo : Grp) (x1 : Int32) (x2 : Int32), fX11_keep_15 fu mo x1 x2 = some (r, mo') → U Y G (upM σ 11 0 mo) 15 [(0, .ref (adr G (11, 0, 0))), (1, .int x1), (2, .int x2)] [] := by
  intro fu
  induction fu with
  | zero =>
    intro mo x1 x2 h
    rw [fX11_keep_15] at h
    cases h
  | succ fu ih =>
    intro mo x1 x2 h
    rw [fX11_keep_15] at h
    refine u_iload_n (pc := 15) F dX11_keep_15 2 rfl rfl ?_
    refine u_bipush (v := 59) (pc := 16) F dX11_keep_16 (by decide) ?_
    refine u_icmp_ge (pc := 18) F 44 dX11_keep_18 (by decide) (fun c3 => ?_) (fun c3 => ?_)
    · rw [if_neg c3] at h
      refine u_aload_n (pc := 44) F dX11_keep_44 0 rfl rfl ?_
      refine u_getA (pc := 45) F dX11_keep_45 (hL 11 0 0 (by decide) rfl) ck_11 fl_11_92 rfl (by decide) (by decide) ?_
      refine u_bipush (v := 60) (pc := 48) F dX11_keep_48 (by decide) ?_
      refine u_iload_n (pc := 50) F dX11_keep_50 1 rfl rfl ?_
      refine u_imul (pc := 51) F dX11_keep_51 ?_
      refine u_bipush (v := 59) (pc := 52) F dX11_keep_52 (by decide) ?_
      refine u_iadd (pc := 54) F dX11_keep_54 ?_
      refine u_aload_n (pc := 55) F dX11_keep_55 0 rfl rfl ?_
      refine u_get1 (pc := 56) F dX11_keep_56 (hL 11 0 0 (by decide) rfl) ck_11 fl_11_257 rfl (by decide) ?_
      obtain ⟨b4, h⟩ := d_ab_some h
      refine u_astI1 (pc := 59) F dX11_keep_59 (hL 11 0 45 (by decide) rfl) rfl b4 ?_
      obtain ⟨g5, hg5, h⟩ := d_lt_some h
      refine u_mem (σ2 := (upM σ 11 0 g5)) (by rw [hg5]) ?_
      refine u_aload_n (pc := 60) F dX11_keep_60 0 rfl rfl ?_
      refine u_getA (pc := 61) F dX11_keep_61 (hL 11 0 0 (by decide) rfl) ck_11 fl_11_95 rfl (by decide) (by decide) ?_
      refine u_iload_n (pc := 64) F dX11_keep_64 1 rfl rfl ?_
      refine u_iconst (v := 1) (pc := 65) F dX11_keep_65 (by decide) ?_
      obtain ⟨b6, h⟩ := d_ab_some h
      refine u_astZ1 (pc := 66) F dX11_keep_66 (hL 11 0 46 (by decide) rfl) rfl b6 rfl (v2 := (1 : Int32)) ?_
      obtain ⟨g7, hg7, h⟩ := d_lt_some h
      refine u_mem (σ2 := (upM σ 11 0 g7)) (by rw [hg7]) ?_
      refine u_aload_n (pc := 67) F dX11_keep_67 0 rfl rfl ?_
      refine u_iconst (v := 0) (pc := 68) F dX11_keep_68 (by decide) ?_
      refine u_put1 (pc := 69) F dX11_keep_69 (hL 11 0 0 (by decide) rfl) ck_11 fl_11_188 rfl (by decide) rfl (ty0 := .int) (by decide +kernel) rfl rfl ?_
      obtain ⟨g8, hg8, h⟩ := d_lt_some h
      refine u_mem (σ2 := (upM σ 11 0 g8)) (by rw [hg8]) ?_
      refine u_iconst (v := 1) (pc := 72) F dX11_keep_72 (by decide) ?_
      have h1 := Option.some.inj h
      obtain ⟨hj0, hr0⟩ := Prod.mk.inj h1
      subst hj0
      subst hr0
      exact hR _ _ rfl dX11_keep_73
    · rw [if_pos c3] at h
      refine u_aload_n (pc := 21) F dX11_keep_21 0 rfl rfl ?_
      refine u_getA (pc := 22) F dX11_keep_22 (hL 11 0 0 (by decide) rfl) ck_11 fl_11_92 rfl (by decide) (by decide) ?_
      refine u_bipush (v := 60) (pc := 25) F dX11_keep_25 (by decide) ?_
      refine u_iload_n (pc := 27) F dX11_keep_27 1 rfl rfl ?_
      refine u_imul (pc := 28) F dX11_keep_28 ?_
      refine u_iload_n (pc := 29) F dX11_keep_29 2 rfl rfl ?_
      refine u_iadd (pc := 30) F dX11_keep_30 ?_
      refine u_aload_n (pc := 31) F dX11_keep_31 0 rfl rfl ?_
      refine u_getA (pc := 32) F dX11_keep_32 (hL 11 0 0 (by decide) rfl) ck_11 fl_11_34 rfl (by decide) (by decide) ?_
      refine u_iload_n (pc := 35) F dX11_keep_35 2 rfl rfl ?_
      obtain ⟨b9, h⟩ := d_ab_some h
      refine u_aldI1 (pc := 36) F dX11_keep_36 (hL 11 0 14 (by decide) rfl) rfl b9 ?_
      obtain ⟨b10, h⟩ := d_ab_some h
      refine u_astI1 (pc := 37) F dX11_keep_37 (hL 11 0 45 (by decide) rfl) rfl b10 ?_
      obtain ⟨g11, hg11, h⟩ := d_lt_some h
      refine u_mem (σ2 := (upM σ 11 0 g11)) (by rw [hg11]) ?_
      obtain ⟨v12, hv12, h⟩ := d_lt_some h
      refine u_iinc (lv' := [(2, .int v12), (0, .ref (adr G (11, 0, 0))), (1, .int x1)]) (pc := 38) F dX11_keep_38 2 rfl hv12.symm hY (by decide) rfl ?_
      refine u_goto (pc := 41) F 15 dX11_keep_41 (by decide) ?_
      refine u_lv (lv' := [(0, .ref (adr G (11, 0, 0))), (1, .int x1), (2, .int v12)]) [1, 2, 0] rfl ?_
      exact ih g11 x1 v12 h
set_option maxHeartbeats 4000000 in
set_option maxRecDepth 100000 in
theorem c_X11_keep (G : G0) (hL : Im G) (x1 : Int32) (σ : Mem) (mo : Grp) (e_mo : σ 11 0 = mo) (r : Int32) (mo' : Grp) (h : fX11_keep mo x1 = some (r, mo')) :
    CI G yX11_keep cX11_keep 3 .int 2 [.ref (adr G (11, 0, 0)), .int x1] σ r (upM σ 11 0 (mo')) := by
  refine CI.of (by decide +kernel) (Nat.le_of_ble_eq_true rfl) (fun Y hY F hR => ?_)
  unfold fX11_keep at h
  have F : Fx Y G cX11_keep RX11 2 := F
  refine u_mem (σ2 := (upM σ 11 0 mo)) (by rw [← e_mo]; simp only [upM_self]) ?_
  refine u_lv (lv' := [(0, .ref (adr G (11, 0, 0))), (1, .int x1)]) [0, 1] rfl ?_
  refine u_iload_n (pc := 0) F dX11_keep_0 1 rfl rfl ?_
  refine u_i2l (pc := 1) F dX11_keep_1 ?_
  refine u_lconst (v := 0) (pc := 2) F dX11_keep_2 (by decide) ?_
  refine u_lconst (v := 1) (pc := 3) F dX11_keep_3 (by decide) ?_
  obtain ⟨q1, hq1, h⟩ := d_bd_some h
  refine u_callSi (pc := 4) F (As := [.long (x1.toInt64), .long (0 : Int64), .long (1 : Int64)]) (c_X11_in G hL (x1.toInt64) (0 : Int64) (1 : Int64) (upM σ 11 0 mo) q1 hq1) ys_X11_in ml_11_105 (by decide) rfl rfl (Nat.le_of_ble_eq_true rfl) dX11_keep_4 ?_
  refine u_if_ne (pc := 7) F 13 dX11_keep_7 (by decide) (fun c2 => ?_) (fun c2 => ?_)
  · rw [if_neg c2] at h
    refine u_iconst (v := 0) (pc := 13) F dX11_keep_13 (by decide) ?_
    refine u_istore_n (lv' := [(2, .int (0 : Int32)), (0, .ref (adr G (11, 0, 0))), (1, .int x1)]) (pc := 14) F dX11_keep_14 rfl hY (by decide) rfl ?_
    refine u_lv (lv' := [(0, .ref (adr G (11, 0, 0))), (1, .int x1), (2, .int (0 : Int32))]) [1, 2, 0] rfl ?_
    exact wX11_keep_15 Y G hL σ F hY r mo' hR 1000 mo x1 (0 : Int32) h
  · rw [if_pos c2] at h
    refine u_ldc (v := -1000000001) (pc := 10) F dX11_keep_10 kc_11_237 ?_
    have h1 := Option.some.inj h
    obtain ⟨hj0, hr0⟩ := Prod.mk.inj h1
    subst hj0
    subst hr0
    exact hR _ _ rfl dX11_keep_12
/- RollingCodesModel.goBack -/
def fX11_goBack_27  : Nat → Grp → Int32 → Int32 → Option (Int32 × Grp)
  | 0, _, _, _ => none
  | fu + 1, mo, x1, x2 =>
    if x2 < (59 : Int32) then (d_ab (((60 : Int32) * x1) + x2) 120 <| d_ab x2 59 <| d_lt (wr mo 14 x2.toNatClampNeg (mo 45 (((60 : Int32) * x1) + x2).toNatClampNeg)) fun g11 => d_lt (x2 + (1 : Int32)) fun v12 => fX11_goBack_27 fu g11 x1 v12) else (d_ab (((60 : Int32) * x1) + (59 : Int32)) 120 <| d_lt (wr mo 0 14 (mo 45 (((60 : Int32) * x1) + (59 : Int32)).toNatClampNeg)) fun g7 => d_lt (wr g7 0 32 (0 : Int32)) fun g8 => some ((1 : Int32), g8))
def fX11_goBack (mo : Grp) (x1 : Int32) : Option (Int32 × Grp) :=
    d_bd (fX11_in (x1.toInt64) (0 : Int64) (1 : Int64)) fun q1 => if q1 = 0 then (some ((-1000000001 : Int32), mo)) else (d_ab x1 2 <| if (mo 46 x1.toNatClampNeg) = 0 then (some ((-1000000003 : Int32), mo)) else (fX11_goBack_27 1000 mo x1 (0 : Int32)))
set_option maxHeartbeats 4000000 in
set_option maxRecDepth 100000 in
theorem wX11_goBack_27 (Y : Dy) (G : G0) (hL : Im G) (σ : Mem) (F : Fx Y G cX11_goBack RX11 2) (hY : Y.2.2.2.2.2.2.2.2.2.2.2.1 = 3) (r : Int32) (mo' : Grp) (hR : ∀ (pc : Nat) (lv : List (Nat × Value)), narrow .int (.int r) = .int r → decode cX11_goBack pc = .ok (.ireturn, 1) → U Y G (upM σ 11 0 (mo')) pc lv [.int r]) :
    ∀ (fu : Nat) (mo : Grp) (x1 : Int32) (x2 : Int32), fX11_goBack_27 fu mo x1 x2 = some (r, mo') → U Y G (upM σ 11 0 mo) 27 [(0, .ref (adr G (11, 0, 0))), (1, .int x1), (2, .int x2)] [] := by
  intro fu
  induction fu with
  | zero =>
    intro mo x1 x2 h
    rw [fX11_goBack_27] at h
    cases h
  | succ fu ih =>
    intro mo x1 x2 h
    rw [fX11_goBack_27] at h
    refine u_iload_n (pc := 27) F dX11_goBack_27 2 rfl rfl ?_
    refine u_bipush (v := 59) (pc := 28) F dX11_goBack_28 (by decide) ?_
    refine u_icmp_ge (pc := 30) F 56 dX11_goBack_30 (by decide) (fun c5 => ?_) (fun c5 => ?_)
    · rw [if_neg c5] at h
      refine u_aload_n (pc := 56) F dX11_goBack_56 0 rfl rfl ?_
      refine u_aload_n (pc := 57) F dX11_goBack_57 0 rfl rfl ?_
      refine u_getA (pc := 58) F dX11_goBack_58 (hL 11 0 0 (by decide) rfl) ck_11 fl_11_92 rfl (by decide) (by decide) ?_
      refine u_bipush (v := 60) (pc := 61) F dX11_goBack_61 (by decide) ?_
      refine u_iload_n (pc := 63) F dX11_goBack_63 1 rfl rfl ?_
      refine u_imul (pc := 64) F dX11_goBack_64 ?_
      refine u_bipush (v := 59) (pc := 65) F dX11_goBack_65 (by decide) ?_
      refine u_iadd (pc := 67) F dX11_goBack_67 ?_
      obtain ⟨b6, h⟩ := d_ab_some h
      refine u_aldI1 (pc := 68) F dX11_goBack_68 (hL 11 0 45 (by decide) rfl) rfl b6 ?_
      refine u_put1 (pc := 69) F dX11_goBack_69 (hL 11 0 0 (by decide) rfl) ck_11 fl_11_257 rfl (by decide) rfl (ty0 := .int) (by decide +kernel) rfl rfl ?_
      obtain ⟨g7, hg7, h⟩ := d_lt_some h
      refine u_mem (σ2 := (upM σ 11 0 g7)) (by rw [hg7]) ?_
      refine u_aload_n (pc := 72) F dX11_goBack_72 0 rfl rfl ?_
      refine u_iconst (v := 0) (pc := 73) F dX11_goBack_73 (by decide) ?_
      refine u_put1 (pc := 74) F dX11_goBack_74 (hL 11 0 0 (by decide) rfl) ck_11 fl_11_188 rfl (by decide) rfl (ty0 := .int) (by decide +kernel) rfl rfl ?_
      obtain ⟨g8, hg8, h⟩ := d_lt_some h
      refine u_mem (σ2 := (upM σ 11 0 g8)) (by rw [hg8]) ?_
      refine u_iconst (v := 1) (pc := 77) F dX11_goBack_77 (by decide) ?_
      have h1 := Option.some.inj h
      obtain ⟨hj0, hr0⟩ := Prod.mk.inj h1
      subst hj0
      subst hr0
      exact hR _ _ rfl dX11_goBack_78
    · rw [if_pos c5] at h
      refine u_aload_n (pc := 33) F dX11_goBack_33 0 rfl rfl ?_
      refine u_getA (pc := 34) F dX11_goBack_34 (hL 11 0 0 (by decide) rfl) ck_11 fl_11_34 rfl (by decide) (by decide) ?_
      refine u_iload_n (pc := 37) F dX11_goBack_37 2 rfl rfl ?_
      refine u_aload_n (pc := 38) F dX11_goBack_38 0 rfl rfl ?_
      refine u_getA (pc := 39) F dX11_goBack_39 (hL 11 0 0 (by decide) rfl) ck_11 fl_11_92 rfl (by decide) (by decide) ?_
      refine u_bipush (v := 60) (pc := 42) F dX11_goBack_42 (by decide) ?_
      refine u_iload_n (pc := 44) F dX11_goBack_44 1 rfl rfl ?_
      refine u_imul (pc := 45) F dX11_goBack_45 ?_
      refine u_iload_n (pc := 46) F dX11_goBack_46 2 rfl rfl ?_
      refine u_iadd (pc := 47) F dX11_goBack_47 ?_
      obtain ⟨b9, h⟩ := d_ab_some h
      refine u_aldI1 (pc := 48) F dX11_goBack_48 (hL 11 0 45 (by decide) rfl) rfl b9 ?_
      obtain ⟨b10, h⟩ := d_ab_some h
      refine u_astI1 (pc := 49) F dX11_goBack_49 (hL 11 0 14 (by decide) rfl) rfl b10 ?_
      obtain ⟨g11, hg11, h⟩ := d_lt_some h
      refine u_mem (σ2 := (upM σ 11 0 g11)) (by rw [hg11]) ?_
      obtain ⟨v12, hv12, h⟩ := d_lt_some h
      refine u_iinc (lv' := [(2, .int v12), (0, .ref (adr G (11, 0, 0))), (1, .int x1)]) (pc := 50) F dX11_goBack_50 2 rfl hv12.symm hY (by decide) rfl ?_
      refine u_goto (pc := 53) F 27 dX11_goBack_53 (by decide) ?_
      refine u_lv (lv' := [(0, .ref (adr G (11, 0, 0))), (1, .int x1), (2, .int v12)]) [1, 2, 0] rfl ?_
      exact ih g11 x1 v12 h
set_option maxHeartbeats 4000000 in
set_option maxRecDepth 100000 in
theorem c_X11_goBack (G : G0) (hL : Im G) (x1 : Int32) (σ : Mem) (mo : Grp) (e_mo : σ 11 0 = mo) (r : Int32) (mo' : Grp) (h : fX11_goBack mo x1 = some (r, mo')) :
    CI G yX11_goBack cX11_goBack 3 .int 2 [.ref (adr G (11, 0, 0)), .int x1] σ r (upM σ 11 0 (mo')) := by
  refine CI.of (by decide +kernel) (Nat.le_of_ble_eq_true rfl) (fun Y hY F hR => ?_)
  unfold fX11_goBack at h
  have F : Fx Y G cX11_goBack RX11 2 := F
  refine u_mem (σ2 := (upM σ 11 0 mo)) (by rw [← e_mo]; simp only [upM_self]) ?_
  refine u_lv (lv' := [(0, .ref (adr G (11, 0, 0))), (1, .int x1)]) [0, 1] rfl ?_
  refine u_iload_n (pc := 0) F dX11_goBack_0 1 rfl rfl ?_
  refine u_i2l (pc := 1) F dX11_goBack_1 ?_
  refine u_lconst (v := 0) (pc := 2) F dX11_goBack_2 (by decide) ?_
  refine u_lconst (v := 1) (pc := 3) F dX11_goBack_3 (by decide) ?_
  obtain ⟨q1, hq1, h⟩ := d_bd_some h
  refine u_callSi (pc := 4) F (As := [.long (x1.toInt64), .long (0 : Int64), .long (1 : Int64)]) (c_X11_in G hL (x1.toInt64) (0 : Int64) (1 : Int64) (upM σ 11 0 mo) q1 hq1) ys_X11_in ml_11_105 (by decide) rfl rfl (Nat.le_of_ble_eq_true rfl) dX11_goBack_4 ?_
  refine u_if_ne (pc := 7) F 13 dX11_goBack_7 (by decide) (fun c2 => ?_) (fun c2 => ?_)
  · rw [if_neg c2] at h
    refine u_aload_n (pc := 13) F dX11_goBack_13 0 rfl rfl ?_
    refine u_getA (pc := 14) F dX11_goBack_14 (hL 11 0 0 (by decide) rfl) ck_11 fl_11_95 rfl (by decide) (by decide) ?_
    refine u_iload_n (pc := 17) F dX11_goBack_17 1 rfl rfl ?_
    obtain ⟨b3, h⟩ := d_ab_some h
    refine u_aldZ1 (pc := 18) F dX11_goBack_18 (hL 11 0 46 (by decide) rfl) rfl b3 ?_
    refine u_if_ne (pc := 19) F 25 dX11_goBack_19 (by decide) (fun c4 => ?_) (fun c4 => ?_)
    · rw [if_neg c4] at h
      refine u_iconst (v := 0) (pc := 25) F dX11_goBack_25 (by decide) ?_
      refine u_istore_n (lv' := [(2, .int (0 : Int32)), (0, .ref (adr G (11, 0, 0))), (1, .int x1)]) (pc := 26) F dX11_goBack_26 rfl hY (by decide) rfl ?_
      refine u_lv (lv' := [(0, .ref (adr G (11, 0, 0))), (1, .int x1), (2, .int (0 : Int32))]) [1, 2, 0] rfl ?_
      exact wX11_goBack_27 Y G hL σ F hY r mo' hR 1000 mo x1 (0 : Int32) h
    · rw [if_pos c4] at h
      refine u_ldc (v := -1000000003) (pc := 22) F dX11_goBack_22 kc_11_248 ?_
      have h1 := Option.some.inj h
      obtain ⟨hj0, hr0⟩ := Prod.mk.inj h1
      subst hj0
      subst hr0
      exact hR _ _ rfl dX11_goBack_24
  · rw [if_pos c2] at h
    refine u_ldc (v := -1000000001) (pc := 10) F dX11_goBack_10 kc_11_237 ?_
    have h1 := Option.some.inj h
    obtain ⟨hj0, hr0⟩ := Prod.mk.inj h1
    subst hj0
    subst hr0
    exact hR _ _ rfl dX11_goBack_12
