/- RollingCodes$Scene.pressedUnheard -/
def fX7_pressedUnheard (sc : Grp) (pl : Grp) (x1 : Int32) (x2 : Int32) : Option (Grp) :=
    d_ab x1 5 <| d_bd (fX4_sendings pl x1) fun q2 => d_bd (fX4_stride pl x1) fun q3 => d_ab x1 5 <| d_lt (wr sc 8 x1.toNatClampNeg (jrem ((sc 8 x1.toNatClampNeg) + ((x2 * q2) * q3)) (10000 : Int32))) fun g5 => some g5
set_option maxHeartbeats 4000000 in
set_option maxRecDepth 100000 in
theorem c_X7_pressedUnheard (G : G0) (hL : In G) (k : Nat) (h_k : k < 24) (x1 : Int32) (x2 : Int32) (σ : Mem) (sc : Grp) (pl : Grp) (e_sc : σ 7 k = sc) (e_pl : σ 4 0 = pl) (sc' : Grp) (h : fX7_pressedUnheard sc pl x1 x2 = some sc') :
    CV G yX7_pressedUnheard cX7_pressedUnheard 3 2 [.ref (adr G (7, k, 0)), .int x1, .int x2] σ (upM σ 7 k (sc')) := by
  refine CV.of (by decide +kernel) (Nat.le_of_ble_eq_true rfl) (fun Y hY F hR => ?_)
  unfold fX7_pressedUnheard at h
  have F : Fx Y G cX7_pressedUnheard RX7 2 := F
  refine u_mem (σ2 := (upM σ 7 k sc)) (by rw [← e_sc]; simp only [upM_self]) ?_
  refine u_lv (lv' := [(0, .ref (adr G (7, k, 0))), (1, .int x1), (2, .int x2)]) [0, 1, 2] rfl ?_
  refine u_aload_n (pc := 0) F dX7_pressedUnheard_0 0 rfl rfl ?_
  refine u_getA (pc := 1) F dX7_pressedUnheard_1 (hL 7 k 0 h_k rfl) ck_7 fl_7_18 rfl (by decide) (by decide) ?_
  refine u_iload_n (pc := 4) F dX7_pressedUnheard_4 1 rfl rfl ?_
  refine u_aload_n (pc := 5) F dX7_pressedUnheard_5 0 rfl rfl ?_
  refine u_getA (pc := 6) F dX7_pressedUnheard_6 (hL 7 k 0 h_k rfl) ck_7 fl_7_18 rfl (by decide) (by decide) ?_
  refine u_iload_n (pc := 9) F dX7_pressedUnheard_9 1 rfl rfl ?_
  obtain ⟨b1, h⟩ := d_ab_some h
  refine u_aldI1 (pc := 10) F dX7_pressedUnheard_10 (hL 7 k 8 h_k rfl) rfl b1 ?_
  refine u_iload_n (pc := 11) F dX7_pressedUnheard_11 2 rfl rfl ?_
  refine u_aload_n (pc := 12) F dX7_pressedUnheard_12 0 rfl rfl ?_
  refine u_getO (pc := 13) F dX7_pressedUnheard_13 (hL 7 k 0 h_k rfl) ck_7 fl_7_36 rfl (by decide) rfl ?_
  refine u_iload_n (pc := 16) F dX7_pressedUnheard_16 1 rfl rfl ?_
  obtain ⟨q2, hq2, h⟩ := d_bd_some h
  refine u_calli (pc := 17) F (As := [.int x1]) (c_X4_sendings G hL 0 (by decide) x1 (upM σ 7 k sc) pl ((show (upM σ 7 k sc) 4 0 = pl from e_pl)) q2 hq2) yv_X4_sendings ml_7_90 (hL 4 0 0 (by decide) rfl) rfl (by decide) rfl rfl (Nat.le_of_ble_eq_true rfl) dX7_pressedUnheard_17 ?_
  refine u_imul (pc := 20) F dX7_pressedUnheard_20 ?_
  refine u_aload_n (pc := 21) F dX7_pressedUnheard_21 0 rfl rfl ?_
  refine u_getO (pc := 22) F dX7_pressedUnheard_22 (hL 7 k 0 h_k rfl) ck_7 fl_7_36 rfl (by decide) rfl ?_
  refine u_iload_n (pc := 25) F dX7_pressedUnheard_25 1 rfl rfl ?_
  obtain ⟨q3, hq3, h⟩ := d_bd_some h
  refine u_calli (pc := 26) F (As := [.int x1]) (c_X4_stride G hL 0 (by decide) x1 (upM σ 7 k sc) pl ((show (upM σ 7 k sc) 4 0 = pl from e_pl)) q3 hq3) yv_X4_stride ml_7_103 (hL 4 0 0 (by decide) rfl) rfl (by decide) rfl rfl (Nat.le_of_ble_eq_true rfl) dX7_pressedUnheard_26 ?_
  refine u_imul (pc := 29) F dX7_pressedUnheard_29 ?_
  refine u_iadd (pc := 30) F dX7_pressedUnheard_30 ?_
  refine u_sipush (v := 10000) (pc := 31) F dX7_pressedUnheard_31 (by decide) ?_
  refine u_irem (pc := 34) F dX7_pressedUnheard_34 (by decide) ?_
  obtain ⟨b4, h⟩ := d_ab_some h
  refine u_astI1 (pc := 35) F dX7_pressedUnheard_35 (hL 7 k 8 h_k rfl) rfl b4 ?_
  obtain ⟨g5, hg5, h⟩ := d_lt_some h
  refine u_mem (σ2 := (upM σ 7 k g5)) (by rw [hg5]) ?_
  have h1 := Option.some.inj h
  subst h1
  exact hR _ _ dX7_pressedUnheard_36
/- RollingCodes$Scene.opensBeside -/
def fX7_opensBeside_5 (pl : Grp) : Nat → Grp → Int32 → Int32 → Int32 → Int32 → Option (Int32 × Grp)
  | 0, _, _, _, _, _ => none
  | fu + 1, sc, x1, x2, x3, x4 =>
    d_bd (fX4_sendings pl x2) fun q1 => if x4 < q1 then (d_bd (fX7_nextCode sc pl x2) fun q4 => d_bd (fX7_hears q4.2 pl x1 q4.1) fun q5 => d_lt (x3 ||| q5.1) fun v6 => d_lt (x4 + (1 : Int32)) fun v7 => fX7_opensBeside_5 pl fu q5.2 x1 x2 v6 v7) else (d_zb x3 <| some (x3, sc))
def fX7_opensBeside (sc : Grp) (pl : Grp) (x1 : Int32) (x2 : Int32) : Option (Int32 × Grp) :=
    fX7_opensBeside_5 pl 1000 sc x1 x2 (0 : Int32) (0 : Int32)
set_option maxHeartbeats 4000000 in
set_option maxRecDepth 100000 in
theorem wX7_opensBeside_5 (Y : Dy) (G : G0) (hL : In G) (k : Nat) (h_k : k < 24) (σ : Mem) (pl : Grp) (e_pl : σ 4 0 = pl) (F : Fx Y G cX7_opensBeside RX7 4) (hY : Y.2.2.2.2.2.2.2.2.2.2.2.1 = 5) (r : Int32) (sc' : Grp) (hR : ∀ (pc : Nat) (lv : List (Nat × Value)), narrow .boolean (.int r) = .int r → decode cX7_opensBeside pc = .ok (.ireturn, 1) → U Y G (upM σ 7 k (sc')) pc lv [.int r]) :
    ∀ (fu : Nat) (sc : Grp) (x1 : Int32) (x2 : Int32) (x3 : Int32) (x4 : Int32), fX7_opensBeside_5 pl fu sc x1 x2 x3 x4 = some (r, sc') → U Y G (upM σ 7 k sc) 5 [(0, .ref (adr G (7, k, 0))), (1, .int x1), (2, .int x2), (3, .int x3), (4, .int x4)] [] := by
  intro fu
  induction fu with
  | zero =>
    intro sc x1 x2 x3 x4 h
    rw [fX7_opensBeside_5] at h
    cases h
  | succ fu ih =>
    intro sc x1 x2 x3 x4 h
    rw [fX7_opensBeside_5] at h
    refine u_iload (pc := 5) F dX7_opensBeside_5 4 rfl ?_
    refine u_aload_n (pc := 7) F dX7_opensBeside_7 0 rfl rfl ?_
    refine u_getO (pc := 8) F dX7_opensBeside_8 (hL 7 k 0 h_k rfl) ck_7 fl_7_36 rfl (by decide) rfl ?_
    refine u_iload_n (pc := 11) F dX7_opensBeside_11 2 rfl rfl ?_
    obtain ⟨q1, hq1, h⟩ := d_bd_some h
    refine u_calli (pc := 12) F (As := [.int x2]) (c_X4_sendings G hL 0 (by decide) x2 (upM σ 7 k sc) pl ((show (upM σ 7 k sc) 4 0 = pl from e_pl)) q1 hq1) yv_X4_sendings ml_7_90 (hL 4 0 0 (by decide) rfl) rfl (by decide) rfl rfl (Nat.le_of_ble_eq_true rfl) dX7_opensBeside_12 ?_
    refine u_icmp_ge (pc := 15) F 37 dX7_opensBeside_15 (by decide) (fun c2 => ?_) (fun c2 => ?_)
    · rw [if_neg c2] at h
      refine u_iload_n (pc := 37) F dX7_opensBeside_37 3 rfl rfl ?_
      obtain ⟨c3, h⟩ := d_zb_some h
      have h1 := Option.some.inj h
      obtain ⟨hj0, hr0⟩ := Prod.mk.inj h1
      subst hj0
      subst hr0
      exact hR _ _ (nar_zb c3) dX7_opensBeside_38
    · rw [if_pos c2] at h
      refine u_iload_n (pc := 18) F dX7_opensBeside_18 3 rfl rfl ?_
      refine u_aload_n (pc := 19) F dX7_opensBeside_19 0 rfl rfl ?_
      refine u_iload_n (pc := 20) F dX7_opensBeside_20 1 rfl rfl ?_
      refine u_aload_n (pc := 21) F dX7_opensBeside_21 0 rfl rfl ?_
      refine u_iload_n (pc := 22) F dX7_opensBeside_22 2 rfl rfl ?_
      obtain ⟨q4, hq4, h⟩ := d_bd_some h
      refine u_calli (pc := 23) F (As := [.int x2]) (c_X7_nextCode G hL k h_k x2 (upM σ 7 k sc) sc pl (upM_same _ _ _ _) ((show (upM σ 7 k sc) 4 0 = pl from e_pl)) q4.1 q4.2 hq4) yv_X7_nextCode ml_7_93 (hL 7 k 0 h_k rfl) rfl (by decide) rfl rfl (Nat.le_of_ble_eq_true rfl) dX7_opensBeside_23 ?_
      refine u_mem (σ2 := (upM σ 7 k q4.2)) (by first | (rw [upM_upM]; done) | (rw [upM_mid _ _ _ _ (by decide)]; done) | (rw [upM_mid _ _ _ _ (by decide), upM_upM]; done) | (rw [upM_mid _ _ _ _ (by decide), upM_mid _ _ _ _ (by decide)]; done)) ?_
      obtain ⟨q5, hq5, h⟩ := d_bd_some h
      refine u_calli (pc := 26) F (As := [.int x1, .int q4.1]) (c_X7_hears G hL k h_k x1 q4.1 (upM σ 7 k q4.2) q4.2 pl (upM_same _ _ _ _) ((show (upM σ 7 k q4.2) 4 0 = pl from e_pl)) q5.1 q5.2 hq5) yv_X7_hears ml_7_106 (hL 7 k 0 h_k rfl) rfl (by decide) rfl rfl (Nat.le_of_ble_eq_true rfl) dX7_opensBeside_26 ?_
      refine u_mem (σ2 := (upM σ 7 k q5.2)) (by first | (rw [upM_upM]; done) | (rw [upM_mid _ _ _ _ (by decide)]; done) | (rw [upM_mid _ _ _ _ (by decide), upM_upM]; done) | (rw [upM_mid _ _ _ _ (by decide), upM_mid _ _ _ _ (by decide)]; done)) ?_
      refine u_ior (pc := 29) F dX7_opensBeside_29 ?_
      obtain ⟨v6, hv6, h⟩ := d_lt_some h
      refine u_topi hv6 ?_
      refine u_istore_n (lv' := [(3, .int v6), (0, .ref (adr G (7, k, 0))), (1, .int x1), (2, .int x2), (4, .int x4)]) (pc := 30) F dX7_opensBeside_30 rfl hY (by decide) rfl ?_
      obtain ⟨v7, hv7, h⟩ := d_lt_some h
      refine u_iinc (lv' := [(4, .int v7), (3, .int v6), (0, .ref (adr G (7, k, 0))), (1, .int x1), (2, .int x2)]) (pc := 31) F dX7_opensBeside_31 4 rfl hv7.symm hY (by decide) rfl ?_
      refine u_goto (pc := 34) F 5 dX7_opensBeside_34 (by decide) ?_
      refine u_lv (lv' := [(0, .ref (adr G (7, k, 0))), (1, .int x1), (2, .int x2), (3, .int v6), (4, .int v7)]) [2, 3, 4, 1, 0] rfl ?_
      exact ih q5.2 x1 x2 v6 v7 h
set_option maxHeartbeats 4000000 in
set_option maxRecDepth 100000 in
theorem c_X7_opensBeside (G : G0) (hL : In G) (k : Nat) (h_k : k < 24) (x1 : Int32) (x2 : Int32) (σ : Mem) (sc : Grp) (pl : Grp) (e_sc : σ 7 k = sc) (e_pl : σ 4 0 = pl) (r : Int32) (sc' : Grp) (h : fX7_opensBeside sc pl x1 x2 = some (r, sc')) :
    CI G yX7_opensBeside cX7_opensBeside 5 .boolean 4 [.ref (adr G (7, k, 0)), .int x1, .int x2] σ r (upM σ 7 k (sc')) := by
  refine CI.of (by decide +kernel) (Nat.le_of_ble_eq_true rfl) (fun Y hY F hR => ?_)
  unfold fX7_opensBeside at h
  have F : Fx Y G cX7_opensBeside RX7 4 := F
  refine u_mem (σ2 := (upM σ 7 k sc)) (by rw [← e_sc]; simp only [upM_self]) ?_
  refine u_lv (lv' := [(0, .ref (adr G (7, k, 0))), (1, .int x1), (2, .int x2)]) [0, 1, 2] rfl ?_
  refine u_iconst (v := 0) (pc := 0) F dX7_opensBeside_0 (by decide) ?_
  refine u_istore_n (lv' := [(3, .int (0 : Int32)), (0, .ref (adr G (7, k, 0))), (1, .int x1), (2, .int x2)]) (pc := 1) F dX7_opensBeside_1 rfl hY (by decide) rfl ?_
  refine u_iconst (v := 0) (pc := 2) F dX7_opensBeside_2 (by decide) ?_
  refine u_istore (lv' := [(4, .int (0 : Int32)), (3, .int (0 : Int32)), (0, .ref (adr G (7, k, 0))), (1, .int x1), (2, .int x2)]) (pc := 3) F dX7_opensBeside_3 hY (by decide) rfl ?_
  refine u_lv (lv' := [(0, .ref (adr G (7, k, 0))), (1, .int x1), (2, .int x2), (3, .int (0 : Int32)), (4, .int (0 : Int32))]) [2, 3, 4, 1, 0] rfl ?_
  exact wX7_opensBeside_5 Y G hL k h_k σ pl e_pl F hY r sc' hR 1000 sc x1 x2 (0 : Int32) (0 : Int32) h
/- RollingCodes$Scene.gatesInReach -/
def fX7_gatesInReach_4 (sc : Grp) (pl : Grp) : Nat → Int32 → Int32 → Option (Int32)
  | 0, _, _ => none
  | fu + 1, x1, x2 =>
    if x2 < (pl 0 3) then (d_bd (fX7_isHeardAt sc pl x2 (sc 0 2) (pl 0 2)) fun q2 => if q2 = 0 then (d_lt (x2 + (1 : Int32)) fun v4 => fX7_gatesInReach_4 sc pl fu x1 v4) else (d_lt (x1 ||| ((1 : Int32) <<< (x2 &&& 31))) fun v5 => d_lt (x2 + (1 : Int32)) fun v6 => fX7_gatesInReach_4 sc pl fu v5 v6)) else (some x1)
def fX7_gatesInReach (sc : Grp) (pl : Grp) : Option (Int32) :=
    fX7_gatesInReach_4 sc pl 1000 (0 : Int32) (0 : Int32)
set_option maxHeartbeats 4000000 in
set_option maxRecDepth 100000 in
theorem wX7_gatesInReach_4 (Y : Dy) (G : G0) (hL : In G) (k : Nat) (h_k : k < 24) (σ : Mem) (sc : Grp) (pl : Grp) (e_sc : σ 7 k = sc) (e_pl : σ 4 0 = pl) (F : Fx Y G cX7_gatesInReach RX7 3) (hY : Y.2.2.2.2.2.2.2.2.2.2.2.1 = 3) (r : Int32) (hR : ∀ (pc : Nat) (lv : List (Nat × Value)), narrow .int (.int r) = .int r → decode cX7_gatesInReach pc = .ok (.ireturn, 1) → U Y G σ pc lv [.int r]) :
    ∀ (fu : Nat) (x1 : Int32) (x2 : Int32), fX7_gatesInReach_4 sc pl fu x1 x2 = some r → U Y G σ 4 [(0, .ref (adr G (7, k, 0))), (1, .int x1), (2, .int x2)] [] := by
  intro fu
  induction fu with
  | zero =>
    intro x1 x2 h
    rw [fX7_gatesInReach_4] at h
    cases h
  | succ fu ih =>
    intro x1 x2 h
    rw [fX7_gatesInReach_4] at h
    refine u_iload_n (pc := 4) F dX7_gatesInReach_4 2 rfl rfl ?_
    refine u_aload_n (pc := 5) F dX7_gatesInReach_5 0 rfl rfl ?_
    refine u_getO (pc := 6) F dX7_gatesInReach_6 (hL 7 k 0 h_k rfl) ck_7 fl_7_36 rfl (by decide) rfl ?_
    refine u_get (v := pl 0 3) (pc := 9) F dX7_gatesInReach_9 (hL 4 0 0 (by decide) rfl) ck_4 fl_7_76 rfl (by decide) (congrFun (congrFun (show σ 4 0 = pl from e_pl) 0) 3) ?_
    refine u_icmp_ge (pc := 12) F 46 dX7_gatesInReach_12 (by decide) (fun c1 => ?_) (fun c1 => ?_)
    · rw [if_neg c1] at h
      refine u_iload_n (pc := 46) F dX7_gatesInReach_46 1 rfl rfl ?_
      have h1 := Option.some.inj h
      subst h1
      exact hR _ _ rfl dX7_gatesInReach_47
    · rw [if_pos c1] at h
      refine u_aload_n (pc := 15) F dX7_gatesInReach_15 0 rfl rfl ?_
      refine u_iload_n (pc := 16) F dX7_gatesInReach_16 2 rfl rfl ?_
      refine u_aload_n (pc := 17) F dX7_gatesInReach_17 0 rfl rfl ?_
      refine u_get (v := sc 0 2) (pc := 18) F dX7_gatesInReach_18 (hL 7 k 0 h_k rfl) ck_7 fl_7_49 rfl (by decide) (congrFun (congrFun (show σ 7 k = sc from e_sc) 0) 2) ?_
      refine u_aload_n (pc := 21) F dX7_gatesInReach_21 0 rfl rfl ?_
      refine u_getO (pc := 22) F dX7_gatesInReach_22 (hL 7 k 0 h_k rfl) ck_7 fl_7_36 rfl (by decide) rfl ?_
      refine u_get (v := pl 0 2) (pc := 25) F dX7_gatesInReach_25 (hL 4 0 0 (by decide) rfl) ck_4 fl_7_110 rfl (by decide) (congrFun (congrFun (show σ 4 0 = pl from e_pl) 0) 2) ?_
      obtain ⟨q2, hq2, h⟩ := d_bd_some h
      refine u_calli (pc := 28) F (As := [.int x2, .int (sc 0 2), .int (pl 0 2)]) (c_X7_isHeardAt G hL k h_k x2 (sc 0 2) (pl 0 2) σ sc pl ((show σ 7 k = sc from e_sc)) ((show σ 4 0 = pl from e_pl)) q2 hq2) yv_X7_isHeardAt ml_7_113 (hL 7 k 0 h_k rfl) rfl (by decide) rfl rfl (Nat.le_of_ble_eq_true rfl) dX7_gatesInReach_28 ?_
      refine u_if_eq (pc := 31) F 40 dX7_gatesInReach_31 (by decide) (fun c3 => ?_) (fun c3 => ?_)
      · rw [if_pos c3] at h
        obtain ⟨v4, hv4, h⟩ := d_lt_some h
        refine u_iinc (lv' := [(2, .int v4), (0, .ref (adr G (7, k, 0))), (1, .int x1)]) (pc := 40) F dX7_gatesInReach_40 2 rfl hv4.symm hY (by decide) rfl ?_
        refine u_goto (pc := 43) F 4 dX7_gatesInReach_43 (by decide) ?_
        refine u_lv (lv' := [(0, .ref (adr G (7, k, 0))), (1, .int x1), (2, .int v4)]) [1, 2, 0] rfl ?_
        exact ih x1 v4 h
      · rw [if_neg c3] at h
        refine u_iload_n (pc := 34) F dX7_gatesInReach_34 1 rfl rfl ?_
        refine u_iconst (v := 1) (pc := 35) F dX7_gatesInReach_35 (by decide) ?_
        refine u_iload_n (pc := 36) F dX7_gatesInReach_36 2 rfl rfl ?_
        refine u_ishl (pc := 37) F dX7_gatesInReach_37 ?_
        refine u_ior (pc := 38) F dX7_gatesInReach_38 ?_
        obtain ⟨v5, hv5, h⟩ := d_lt_some h
        refine u_topi hv5 ?_
        refine u_istore_n (lv' := [(1, .int v5), (0, .ref (adr G (7, k, 0))), (2, .int x2)]) (pc := 39) F dX7_gatesInReach_39 rfl hY (by decide) rfl ?_
        obtain ⟨v6, hv6, h⟩ := d_lt_some h
        refine u_iinc (lv' := [(2, .int v6), (1, .int v5), (0, .ref (adr G (7, k, 0)))]) (pc := 40) F dX7_gatesInReach_40 2 rfl hv6.symm hY (by decide) rfl ?_
        refine u_goto (pc := 43) F 4 dX7_gatesInReach_43 (by decide) ?_
        refine u_lv (lv' := [(0, .ref (adr G (7, k, 0))), (1, .int v5), (2, .int v6)]) [2, 1, 0] rfl ?_
        exact ih v5 v6 h
set_option maxHeartbeats 4000000 in
set_option maxRecDepth 100000 in
theorem c_X7_gatesInReach (G : G0) (hL : In G) (k : Nat) (h_k : k < 24) (σ : Mem) (sc : Grp) (pl : Grp) (e_sc : σ 7 k = sc) (e_pl : σ 4 0 = pl) (r : Int32) (h : fX7_gatesInReach sc pl = some r) :
    CI G yX7_gatesInReach cX7_gatesInReach 3 .int 3 [.ref (adr G (7, k, 0))] σ r σ := by
  refine CI.of (by decide +kernel) (Nat.le_of_ble_eq_true rfl) (fun Y hY F hR => ?_)
  unfold fX7_gatesInReach at h
  have F : Fx Y G cX7_gatesInReach RX7 3 := F
  refine u_lv (lv' := [(0, .ref (adr G (7, k, 0)))]) [0] rfl ?_
  refine u_iconst (v := 0) (pc := 0) F dX7_gatesInReach_0 (by decide) ?_
  refine u_istore_n (lv' := [(1, .int (0 : Int32)), (0, .ref (adr G (7, k, 0)))]) (pc := 1) F dX7_gatesInReach_1 rfl hY (by decide) rfl ?_
  refine u_iconst (v := 0) (pc := 2) F dX7_gatesInReach_2 (by decide) ?_
  refine u_istore_n (lv' := [(2, .int (0 : Int32)), (1, .int (0 : Int32)), (0, .ref (adr G (7, k, 0)))]) (pc := 3) F dX7_gatesInReach_3 rfl hY (by decide) rfl ?_
  refine u_lv (lv' := [(0, .ref (adr G (7, k, 0))), (1, .int (0 : Int32)), (2, .int (0 : Int32))]) [2, 1, 0] rfl ?_
  exact wX7_gatesInReach_4 Y G hL k h_k σ sc pl e_sc e_pl F hY r hR 1000 (0 : Int32) (0 : Int32) h
/- RollingCodes$Scene.waitsAs -/
def fX7_waitsAs_2 (sc : Grp) (pl : Grp) (sd : Grp) : Nat → Int32 → Option (Int32)
  | 0, _ => none
  | fu + 1, x2 =>
    if x2 < (pl 0 3) then (d_ab x2 4 <| d_ab x2 4 <| if (sc 11 x2.toNatClampNeg) = (sd 11 x2.toNatClampNeg) then (d_ab x2 4 <| d_ab x2 4 <| if (sc 12 x2.toNatClampNeg) = (sd 12 x2.toNatClampNeg) then (d_lt (x2 + (1 : Int32)) fun v8 => fX7_waitsAs_2 sc pl sd fu v8) else (some (0 : Int32))) else (some (0 : Int32))) else (some (1 : Int32))
def fX7_waitsAs (sc : Grp) (pl : Grp) (sd : Grp) : Option (Int32) :=
    fX7_waitsAs_2 sc pl sd 1000 (0 : Int32)
set_option maxHeartbeats 4000000 in
set_option maxRecDepth 100000 in
theorem wX7_waitsAs_2 (Y : Dy) (G : G0) (hL : In G) (k : Nat) (h_k : k < 24) (k2 : Nat) (h_k2 : k2 < 24) (σ : Mem) (sc : Grp) (pl : Grp) (sd : Grp) (e_sc : σ 7 k = sc) (e_pl : σ 4 0 = pl) (e_sd : σ 7 k2 = sd) (F : Fx Y G cX7_waitsAs RX7 1) (hY : Y.2.2.2.2.2.2.2.2.2.2.2.1 = 3) (r : Int32) (hR : ∀ (pc : Nat) (lv : List (Nat × Value)), narrow .boolean (.int r) = .int r → decode cX7_waitsAs pc = .ok (.ireturn, 1) → U Y G σ pc lv [.int r]) :
    ∀ (fu : Nat) (x2 : Int32), fX7_waitsAs_2 sc pl sd fu x2 = some r → U Y G σ 2 [(0, .ref (adr G (7, k, 0))), (1, .ref (adr G (7, k2, 0))), (2, .int x2)] [] := by
  intro fu
  induction fu with
  | zero =>
    intro x2 h
    rw [fX7_waitsAs_2] at h
    cases h
  | succ fu ih =>
    intro x2 h
    rw [fX7_waitsAs_2] at h
    refine u_iload_n (pc := 2) F dX7_waitsAs_2 2 rfl rfl ?_
    refine u_aload_n (pc := 3) F dX7_waitsAs_3 0 rfl rfl ?_
    refine u_getO (pc := 4) F dX7_waitsAs_4 (hL 7 k 0 h_k rfl) ck_7 fl_7_36 rfl (by decide) rfl ?_
    refine u_get (v := pl 0 3) (pc := 7) F dX7_waitsAs_7 (hL 4 0 0 (by decide) rfl) ck_4 fl_7_76 rfl (by decide) (congrFun (congrFun (show σ 4 0 = pl from e_pl) 0) 3) ?_
    refine u_icmp_ge (pc := 10) F 51 dX7_waitsAs_10 (by decide) (fun c1 => ?_) (fun c1 => ?_)
    · rw [if_neg c1] at h
      refine u_iconst (v := 1) (pc := 51) F dX7_waitsAs_51 (by decide) ?_
      have h1 := Option.some.inj h
      subst h1
      exact hR _ _ rfl dX7_waitsAs_52
    · rw [if_pos c1] at h
      refine u_aload_n (pc := 13) F dX7_waitsAs_13 0 rfl rfl ?_
      refine u_getA (pc := 14) F dX7_waitsAs_14 (hL 7 k 0 h_k rfl) ck_7 fl_7_27 rfl (by decide) (by decide) ?_
      refine u_iload_n (pc := 17) F dX7_waitsAs_17 2 rfl rfl ?_
      obtain ⟨b2, h⟩ := d_ab_some h
      refine u_aldI (v := sc 11 x2.toNatClampNeg) (pc := 18) F dX7_waitsAs_18 (hL 7 k 11 h_k rfl) rfl b2 (congrFun (congrFun (show σ 7 k = sc from e_sc) 11) _) ?_
      refine u_aload_n (pc := 19) F dX7_waitsAs_19 1 rfl rfl ?_
      refine u_getA (pc := 20) F dX7_waitsAs_20 (hL 7 k2 0 h_k2 rfl) ck_7 fl_7_27 rfl (by decide) (by decide) ?_
      refine u_iload_n (pc := 23) F dX7_waitsAs_23 2 rfl rfl ?_
      obtain ⟨b3, h⟩ := d_ab_some h
      refine u_aldI (v := sd 11 x2.toNatClampNeg) (pc := 24) F dX7_waitsAs_24 (hL 7 k2 11 h_k2 rfl) rfl b3 (congrFun (congrFun (show σ 7 k2 = sd from e_sd) 11) _) ?_
      refine u_icmp_ne (pc := 25) F 43 dX7_waitsAs_25 (by decide) (fun c4 => ?_) (fun c4 => ?_)
      · rw [if_neg c4] at h
        refine u_iconst (v := 0) (pc := 43) F dX7_waitsAs_43 (by decide) ?_
        have h1 := Option.some.inj h
        subst h1
        exact hR _ _ rfl dX7_waitsAs_44
      · rw [if_pos c4] at h
        refine u_aload_n (pc := 28) F dX7_waitsAs_28 0 rfl rfl ?_
        refine u_getA (pc := 29) F dX7_waitsAs_29 (hL 7 k 0 h_k rfl) ck_7 fl_7_30 rfl (by decide) (by decide) ?_
        refine u_iload_n (pc := 32) F dX7_waitsAs_32 2 rfl rfl ?_
        obtain ⟨b5, h⟩ := d_ab_some h
        refine u_aldI (v := sc 12 x2.toNatClampNeg) (pc := 33) F dX7_waitsAs_33 (hL 7 k 12 h_k rfl) rfl b5 (congrFun (congrFun (show σ 7 k = sc from e_sc) 12) _) ?_
        refine u_aload_n (pc := 34) F dX7_waitsAs_34 1 rfl rfl ?_
        refine u_getA (pc := 35) F dX7_waitsAs_35 (hL 7 k2 0 h_k2 rfl) ck_7 fl_7_30 rfl (by decide) (by decide) ?_
        refine u_iload_n (pc := 38) F dX7_waitsAs_38 2 rfl rfl ?_
        obtain ⟨b6, h⟩ := d_ab_some h
        refine u_aldI (v := sd 12 x2.toNatClampNeg) (pc := 39) F dX7_waitsAs_39 (hL 7 k2 12 h_k2 rfl) rfl b6 (congrFun (congrFun (show σ 7 k2 = sd from e_sd) 12) _) ?_
        refine u_icmp_eq (pc := 40) F 45 dX7_waitsAs_40 (by decide) (fun c7 => ?_) (fun c7 => ?_)
        · rw [if_pos c7] at h
          obtain ⟨v8, hv8, h⟩ := d_lt_some h
          refine u_iinc (lv' := [(2, .int v8), (0, .ref (adr G (7, k, 0))), (1, .ref (adr G (7, k2, 0)))]) (pc := 45) F dX7_waitsAs_45 2 rfl hv8.symm hY (by decide) rfl ?_
          refine u_goto (pc := 48) F 2 dX7_waitsAs_48 (by decide) ?_
          refine u_lv (lv' := [(0, .ref (adr G (7, k, 0))), (1, .ref (adr G (7, k2, 0))), (2, .int v8)]) [1, 2, 0] rfl ?_
          exact ih v8 h
        · rw [if_neg c7] at h
          refine u_iconst (v := 0) (pc := 43) F dX7_waitsAs_43 (by decide) ?_
          have h1 := Option.some.inj h
          subst h1
          exact hR _ _ rfl dX7_waitsAs_44
set_option maxHeartbeats 4000000 in
set_option maxRecDepth 100000 in
theorem c_X7_waitsAs (G : G0) (hL : In G) (k : Nat) (h_k : k < 24) (k2 : Nat) (h_k2 : k2 < 24) (σ : Mem) (sc : Grp) (pl : Grp) (sd : Grp) (e_sc : σ 7 k = sc) (e_pl : σ 4 0 = pl) (e_sd : σ 7 k2 = sd) (r : Int32) (h : fX7_waitsAs sc pl sd = some r) :
    CI G yX7_waitsAs cX7_waitsAs 3 .boolean 1 [.ref (adr G (7, k, 0)), .ref (adr G (7, k2, 0))] σ r σ := by
  refine CI.of (by decide +kernel) (Nat.le_of_ble_eq_true rfl) (fun Y hY F hR => ?_)
  unfold fX7_waitsAs at h
  have F : Fx Y G cX7_waitsAs RX7 1 := F
  refine u_lv (lv' := [(0, .ref (adr G (7, k, 0))), (1, .ref (adr G (7, k2, 0)))]) [0, 1] rfl ?_
  refine u_iconst (v := 0) (pc := 0) F dX7_waitsAs_0 (by decide) ?_
  refine u_istore_n (lv' := [(2, .int (0 : Int32)), (0, .ref (adr G (7, k, 0))), (1, .ref (adr G (7, k2, 0)))]) (pc := 1) F dX7_waitsAs_1 rfl hY (by decide) rfl ?_
  refine u_lv (lv' := [(0, .ref (adr G (7, k, 0))), (1, .ref (adr G (7, k2, 0))), (2, .int (0 : Int32))]) [1, 2, 0] rfl ?_
  exact wX7_waitsAs_2 Y G hL k h_k k2 h_k2 σ sc pl sd e_sc e_pl e_sd F hY r hR 1000 (0 : Int32) h
