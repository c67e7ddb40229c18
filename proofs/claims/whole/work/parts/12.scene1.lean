/- RollingCodes$Scene.waitFor -/
def fX7_waitFor (sc : Grp) (x1 : Int32) (x2 : Int32) (x3 : Int32) : Option (Grp) :=
    d_ab x1 4 <| d_lt (wr sc 11 x1.toNatClampNeg x2) fun g2 => d_ab x1 4 <| d_lt (wr g2 12 x1.toNatClampNeg x3) fun g4 => some g4
set_option maxHeartbeats 4000000 in
set_option maxRecDepth 100000 in
theorem c_X7_waitFor (G : G0) (hL : In G) (k : Nat) (h_k : k < 24) (x1 : Int32) (x2 : Int32) (x3 : Int32) (σ : Mem) (sc : Grp) (e_sc : σ 7 k = sc) (sc' : Grp) (h : fX7_waitFor sc x1 x2 x3 = some sc') :
    CV G yX7_waitFor cX7_waitFor 4 1 [.ref (adr G (7, k, 0)), .int x1, .int x2, .int x3] σ (upM σ 7 k (sc')) := by
  refine CV.of (by decide +kernel) (Nat.le_of_ble_eq_true rfl) (fun Y hY F hR => ?_)
  unfold fX7_waitFor at h
  have F : Fx Y G cX7_waitFor RX7 1 := F
  refine u_mem (σ2 := (upM σ 7 k sc)) (by rw [← e_sc]; simp only [upM_self]) ?_
  refine u_lv (lv' := [(0, .ref (adr G (7, k, 0))), (1, .int x1), (2, .int x2), (3, .int x3)]) [0, 1, 2, 3] rfl ?_
  refine u_aload_n (pc := 0) F dX7_waitFor_0 0 rfl rfl ?_
  refine u_getA (pc := 1) F dX7_waitFor_1 (hL 7 k 0 h_k rfl) ck_7 fl_7_27 rfl (by decide) (by decide) ?_
  refine u_iload_n (pc := 4) F dX7_waitFor_4 1 rfl rfl ?_
  refine u_iload_n (pc := 5) F dX7_waitFor_5 2 rfl rfl ?_
  obtain ⟨b1, h⟩ := d_ab_some h
  refine u_astI1 (pc := 6) F dX7_waitFor_6 (hL 7 k 11 h_k rfl) rfl b1 ?_
  obtain ⟨g2, hg2, h⟩ := d_lt_some h
  refine u_mem (σ2 := (upM σ 7 k g2)) (by rw [hg2]) ?_
  refine u_aload_n (pc := 7) F dX7_waitFor_7 0 rfl rfl ?_
  refine u_getA (pc := 8) F dX7_waitFor_8 (hL 7 k 0 h_k rfl) ck_7 fl_7_30 rfl (by decide) (by decide) ?_
  refine u_iload_n (pc := 11) F dX7_waitFor_11 1 rfl rfl ?_
  refine u_iload_n (pc := 12) F dX7_waitFor_12 3 rfl rfl ?_
  obtain ⟨b3, h⟩ := d_ab_some h
  refine u_astI1 (pc := 13) F dX7_waitFor_13 (hL 7 k 12 h_k rfl) rfl b3 ?_
  obtain ⟨g4, hg4, h⟩ := d_lt_some h
  refine u_mem (σ2 := (upM σ 7 k g4)) (by rw [hg4]) ?_
  have h1 := Option.some.inj h
  subst h1
  exact hR _ _ dX7_waitFor_14
/- RollingCodes$Scene.taught -/
def fX7_taught (sc : Grp) (x1 : Int32) (x2 : Int32) : Option (Grp) :=
    d_ab x2 5 <| d_ab ((x1 * (5 : Int32)) + x2) 20 <| d_lt (wr sc 13 ((x1 * (5 : Int32)) + x2).toNatClampNeg (sc 8 x2.toNatClampNeg)) fun g3 => some g3
set_option maxHeartbeats 4000000 in
set_option maxRecDepth 100000 in
theorem c_X7_taught (G : G0) (hL : In G) (k : Nat) (h_k : k < 24) (x1 : Int32) (x2 : Int32) (σ : Mem) (sc : Grp) (e_sc : σ 7 k = sc) (sc' : Grp) (h : fX7_taught sc x1 x2 = some sc') :
    CV G yX7_taught cX7_taught 3 1 [.ref (adr G (7, k, 0)), .int x1, .int x2] σ (upM σ 7 k (sc')) := by
  refine CV.of (by decide +kernel) (Nat.le_of_ble_eq_true rfl) (fun Y hY F hR => ?_)
  unfold fX7_taught at h
  have F : Fx Y G cX7_taught RX7 1 := F
  refine u_mem (σ2 := (upM σ 7 k sc)) (by rw [← e_sc]; simp only [upM_self]) ?_
  refine u_lv (lv' := [(0, .ref (adr G (7, k, 0))), (1, .int x1), (2, .int x2)]) [0, 1, 2] rfl ?_
  refine u_aload_n (pc := 0) F dX7_taught_0 0 rfl rfl ?_
  refine u_getA (pc := 1) F dX7_taught_1 (hL 7 k 0 h_k rfl) ck_7 fl_7_33 rfl (by decide) (by decide) ?_
  refine u_iload_n (pc := 4) F dX7_taught_4 1 rfl rfl ?_
  refine u_iconst (v := 5) (pc := 5) F dX7_taught_5 (by decide) ?_
  refine u_imul (pc := 6) F dX7_taught_6 ?_
  refine u_iload_n (pc := 7) F dX7_taught_7 2 rfl rfl ?_
  refine u_iadd (pc := 8) F dX7_taught_8 ?_
  refine u_aload_n (pc := 9) F dX7_taught_9 0 rfl rfl ?_
  refine u_getA (pc := 10) F dX7_taught_10 (hL 7 k 0 h_k rfl) ck_7 fl_7_18 rfl (by decide) (by decide) ?_
  refine u_iload_n (pc := 13) F dX7_taught_13 2 rfl rfl ?_
  obtain ⟨b1, h⟩ := d_ab_some h
  refine u_aldI1 (pc := 14) F dX7_taught_14 (hL 7 k 8 h_k rfl) rfl b1 ?_
  obtain ⟨b2, h⟩ := d_ab_some h
  refine u_astI1 (pc := 15) F dX7_taught_15 (hL 7 k 13 h_k rfl) rfl b2 ?_
  obtain ⟨g3, hg3, h⟩ := d_lt_some h
  refine u_mem (σ2 := (upM σ 7 k g3)) (by rw [hg3]) ?_
  have h1 := Option.some.inj h
  subst h1
  exact hR _ _ dX7_taught_16
/- RollingCodes$Scene.begin -/
def fX7_begin_100 (pl : Grp) : Nat → Grp → Int32 → Int32 → Option (Int32 × Grp)
  | 0, _, _, _ => none
  | fu + 1, sc, x1, x2 =>
    if x2 < (5 : Int32) then (d_bd (fX7_taught sc x1 x2) fun q11 => d_lt (x2 + (1 : Int32)) fun v12 => fX7_begin_100 pl fu q11 x1 v12) else (some (x1, sc))
def fX7_begin_79 (pl : Grp) : Nat → Grp → Int32 → Option (Grp)
  | 0, _, _ => none
  | fu + 1, sc, x1 =>
    if x1 < (4 : Int32) then (d_ab x1 4 <| d_lt (wr sc 10 x1.toNatClampNeg (0 : Int32)) fun g8 => d_bd (fX7_waitFor g8 x1 (-1 : Int32) (-1 : Int32)) fun q9 => d_bd (fX7_begin_100 pl 1000 q9 x1 (0 : Int32)) fun q13 => d_lt (q13.1 + (1 : Int32)) fun v14 => fX7_begin_79 pl fu q13.2 v14) else (some sc)
def fX7_begin_28 (pl : Grp) : Nat → Grp → Int32 → Option (Grp)
  | 0, _, _ => none
  | fu + 1, sc, x1 =>
    if x1 < (5 : Int32) then (d_ab x1 5 <| d_ab x1 5 <| d_lt (wr sc 7 x1.toNatClampNeg (pl 10 x1.toNatClampNeg)) fun g17 => d_ab x1 5 <| d_ab x1 5 <| d_lt (wr g17 8 x1.toNatClampNeg (pl 13 x1.toNatClampNeg)) fun g20 => d_ab x1 5 <| d_lt (wr g20 9 x1.toNatClampNeg (60 : Int32)) fun g22 => d_lt (x1 + (1 : Int32)) fun v23 => fX7_begin_28 pl fu g22 v23) else (fX7_begin_79 pl 1000 sc (0 : Int32))
def fX7_begin (sc : Grp) (pl : Grp) : Option (Grp) :=
    d_lt (wr sc 0 1 (0 : Int32)) fun g1 => d_lt (wr g1 0 2 (pl 0 1)) fun g2 => d_lt (wr g2 0 3 (0 : Int32)) fun g3 => d_lt (wr g3 0 4 (0 : Int32)) fun g4 => fX7_begin_28 pl 1000 g4 (0 : Int32)
set_option maxHeartbeats 4000000 in
set_option maxRecDepth 100000 in
theorem wX7_begin_100 (Y : Dy) (G : G0) (hL : In G) (k : Nat) (h_k : k < 24) (σ : Mem) (pl : Grp) (e_pl : σ 4 0 = pl) (F : Fx Y G cX7_begin RX7 2) (hY : Y.2.2.2.2.2.2.2.2.2.2.2.1 = 3) :
    ∀ (fu : Nat) (sc : Grp) (x1 : Int32) (x2 : Int32) (z1 : Int32) (z_sc : Grp), fX7_begin_100 pl fu sc x1 x2 = some (z1, z_sc) → U Y G (upM σ 7 k z_sc) 117 [(0, .ref (adr G (7, k, 0))), (1, .int z1)] [] → U Y G (upM σ 7 k sc) 100 [(0, .ref (adr G (7, k, 0))), (1, .int x1), (2, .int x2)] [] := by
  intro fu
  induction fu with
  | zero =>
    intro sc x1 x2 z1 z_sc h hK
    rw [fX7_begin_100] at h
    cases h
  | succ fu ih =>
    intro sc x1 x2 z1 z_sc h hK
    rw [fX7_begin_100] at h
    refine u_iload_n (pc := 100) F dX7_begin_100 2 rfl rfl ?_
    refine u_iconst (v := 5) (pc := 101) F dX7_begin_101 (by decide) ?_
    refine u_icmp_ge (pc := 102) F 117 dX7_begin_102 (by decide) (fun c10 => ?_) (fun c10 => ?_)
    · rw [if_neg c10] at h
      have h1 := Option.some.inj h
      obtain ⟨hj0, hr0⟩ := Prod.mk.inj h1
      subst hj0
      subst hr0
      refine u_lv [0, 1] rfl ?_
      exact hK
    · rw [if_pos c10] at h
      refine u_aload_n (pc := 105) F dX7_begin_105 0 rfl rfl ?_
      refine u_iload_n (pc := 106) F dX7_begin_106 1 rfl rfl ?_
      refine u_iload_n (pc := 107) F dX7_begin_107 2 rfl rfl ?_
      obtain ⟨q11, hq11, h⟩ := d_bd_some h
      refine u_callv (pc := 108) F (As := [.int x1, .int x2]) (c_X7_taught G hL k h_k x1 x2 (upM σ 7 k sc) sc (upM_same _ _ _ _) q11 hq11) yv_X7_taught ml_7_66 (hL 7 k 0 h_k rfl) rfl (by decide) rfl rfl (Nat.le_of_ble_eq_true rfl) dX7_begin_108 ?_
      refine u_mem (σ2 := (upM σ 7 k q11)) (by first | (rw [upM_upM]; done) | (rw [upM_mid _ _ _ _ (by decide)]; done) | (rw [upM_mid _ _ _ _ (by decide), upM_upM]; done) | (rw [upM_mid _ _ _ _ (by decide), upM_mid _ _ _ _ (by decide)]; done)) ?_
      obtain ⟨v12, hv12, h⟩ := d_lt_some h
      refine u_iinc (lv' := [(2, .int v12), (0, .ref (adr G (7, k, 0))), (1, .int x1)]) (pc := 111) F dX7_begin_111 2 rfl hv12.symm hY (by decide) rfl ?_
      refine u_goto (pc := 114) F 100 dX7_begin_114 (by decide) ?_
      refine u_lv (lv' := [(0, .ref (adr G (7, k, 0))), (1, .int x1), (2, .int v12)]) [1, 2, 0] rfl ?_
      exact ih q11 x1 v12 z1 z_sc h hK
set_option maxHeartbeats 4000000 in
set_option maxRecDepth 100000 in
theorem wX7_begin_79 (Y : Dy) (G : G0) (hL : In G) (k : Nat) (h_k : k < 24) (σ : Mem) (pl : Grp) (e_pl : σ 4 0 = pl) (F : Fx Y G cX7_begin RX7 2) (hY : Y.2.2.2.2.2.2.2.2.2.2.2.1 = 3) (sc' : Grp) (hR : ∀ (pc : Nat) (lv : List (Nat × Value)), decode cX7_begin pc = .ok (.return_, 1) → U Y G (upM σ 7 k (sc')) pc lv []) :
    ∀ (fu : Nat) (sc : Grp) (x1 : Int32), fX7_begin_79 pl fu sc x1 = some sc' → U Y G (upM σ 7 k sc) 79 [(0, .ref (adr G (7, k, 0))), (1, .int x1)] [] := by
  intro fu
  induction fu with
  | zero =>
    intro sc x1 h
    rw [fX7_begin_79] at h
    cases h
  | succ fu ih =>
    intro sc x1 h
    rw [fX7_begin_79] at h
    refine u_iload_n (pc := 79) F dX7_begin_79 1 rfl rfl ?_
    refine u_iconst (v := 4) (pc := 80) F dX7_begin_80 (by decide) ?_
    refine u_icmp_ge (pc := 81) F 123 dX7_begin_81 (by decide) (fun c6 => ?_) (fun c6 => ?_)
    · rw [if_neg c6] at h
      have h1 := Option.some.inj h
      subst h1
      exact hR _ _ dX7_begin_123
    · rw [if_pos c6] at h
      refine u_aload_n (pc := 84) F dX7_begin_84 0 rfl rfl ?_
      refine u_getA (pc := 85) F dX7_begin_85 (hL 7 k 0 h_k rfl) ck_7 fl_7_24 rfl (by decide) (by decide) ?_
      refine u_iload_n (pc := 88) F dX7_begin_88 1 rfl rfl ?_
      refine u_iconst (v := 0) (pc := 89) F dX7_begin_89 (by decide) ?_
      obtain ⟨b7, h⟩ := d_ab_some h
      refine u_astI1 (pc := 90) F dX7_begin_90 (hL 7 k 10 h_k rfl) rfl b7 ?_
      obtain ⟨g8, hg8, h⟩ := d_lt_some h
      refine u_mem (σ2 := (upM σ 7 k g8)) (by rw [hg8]) ?_
      refine u_aload_n (pc := 91) F dX7_begin_91 0 rfl rfl ?_
      refine u_iload_n (pc := 92) F dX7_begin_92 1 rfl rfl ?_
      refine u_iconst (v := -1) (pc := 93) F dX7_begin_93 (by decide) ?_
      refine u_iconst (v := -1) (pc := 94) F dX7_begin_94 (by decide) ?_
      obtain ⟨q9, hq9, h⟩ := d_bd_some h
      refine u_callv (pc := 95) F (As := [.int x1, .int (-1 : Int32), .int (-1 : Int32)]) (c_X7_waitFor G hL k h_k x1 (-1 : Int32) (-1 : Int32) (upM σ 7 k g8) g8 (upM_same _ _ _ _) q9 hq9) yv_X7_waitFor ml_7_62 (hL 7 k 0 h_k rfl) rfl (by decide) rfl rfl (Nat.le_of_ble_eq_true rfl) dX7_begin_95 ?_
      refine u_mem (σ2 := (upM σ 7 k q9)) (by first | (rw [upM_upM]; done) | (rw [upM_mid _ _ _ _ (by decide)]; done) | (rw [upM_mid _ _ _ _ (by decide), upM_upM]; done) | (rw [upM_mid _ _ _ _ (by decide), upM_mid _ _ _ _ (by decide)]; done)) ?_
      refine u_iconst (v := 0) (pc := 98) F dX7_begin_98 (by decide) ?_
      refine u_istore_n (lv' := [(2, .int (0 : Int32)), (0, .ref (adr G (7, k, 0))), (1, .int x1)]) (pc := 99) F dX7_begin_99 rfl hY (by decide) rfl ?_
      obtain ⟨q13, hq13, h⟩ := d_bd_some h
      refine u_lv (lv' := [(0, .ref (adr G (7, k, 0))), (1, .int x1), (2, .int (0 : Int32))]) [1, 2, 0] rfl ?_
      refine wX7_begin_100 Y G hL k h_k σ pl e_pl F hY 1000 q9 x1 (0 : Int32) q13.1 q13.2 hq13 ?_
      obtain ⟨v14, hv14, h⟩ := d_lt_some h
      refine u_iinc (lv' := [(1, .int v14), (0, .ref (adr G (7, k, 0)))]) (pc := 117) F dX7_begin_117 1 rfl hv14.symm hY (by decide) rfl ?_
      refine u_goto (pc := 120) F 79 dX7_begin_120 (by decide) ?_
      refine u_lv (lv' := [(0, .ref (adr G (7, k, 0))), (1, .int v14)]) [1, 0] rfl ?_
      exact ih q13.2 v14 h
set_option maxHeartbeats 4000000 in
set_option maxRecDepth 100000 in
theorem wX7_begin_28 (Y : Dy) (G : G0) (hL : In G) (k : Nat) (h_k : k < 24) (σ : Mem) (pl : Grp) (e_pl : σ 4 0 = pl) (F : Fx Y G cX7_begin RX7 2) (hY : Y.2.2.2.2.2.2.2.2.2.2.2.1 = 3) (sc' : Grp) (hR : ∀ (pc : Nat) (lv : List (Nat × Value)), decode cX7_begin pc = .ok (.return_, 1) → U Y G (upM σ 7 k (sc')) pc lv []) :
    ∀ (fu : Nat) (sc : Grp) (x1 : Int32), fX7_begin_28 pl fu sc x1 = some sc' → U Y G (upM σ 7 k sc) 28 [(0, .ref (adr G (7, k, 0))), (1, .int x1)] [] := by
  intro fu
  induction fu with
  | zero =>
    intro sc x1 h
    rw [fX7_begin_28] at h
    cases h
  | succ fu ih =>
    intro sc x1 h
    rw [fX7_begin_28] at h
    refine u_iload_n (pc := 28) F dX7_begin_28 1 rfl rfl ?_
    refine u_iconst (v := 5) (pc := 29) F dX7_begin_29 (by decide) ?_
    refine u_icmp_ge (pc := 30) F 77 dX7_begin_30 (by decide) (fun c5 => ?_) (fun c5 => ?_)
    · rw [if_neg c5] at h
      refine u_iconst (v := 0) (pc := 77) F dX7_begin_77 (by decide) ?_
      refine u_istore_n (lv' := [(1, .int (0 : Int32)), (0, .ref (adr G (7, k, 0)))]) (pc := 78) F dX7_begin_78 rfl hY (by decide) rfl ?_
      refine u_lv (lv' := [(0, .ref (adr G (7, k, 0))), (1, .int (0 : Int32))]) [1, 0] rfl ?_
      exact wX7_begin_79 Y G hL k h_k σ pl e_pl F hY sc' hR 1000 sc (0 : Int32) h
    · rw [if_pos c5] at h
      refine u_aload_n (pc := 33) F dX7_begin_33 0 rfl rfl ?_
      refine u_getA (pc := 34) F dX7_begin_34 (hL 7 k 0 h_k rfl) ck_7 fl_7_15 rfl (by decide) (by decide) ?_
      refine u_iload_n (pc := 37) F dX7_begin_37 1 rfl rfl ?_
      refine u_aload_n (pc := 38) F dX7_begin_38 0 rfl rfl ?_
      refine u_getO (pc := 39) F dX7_begin_39 (hL 7 k 0 h_k rfl) ck_7 fl_7_36 rfl (by decide) rfl ?_
      refine u_getA (pc := 42) F dX7_begin_42 (hL 4 0 0 (by decide) rfl) ck_4 fl_7_56 rfl (by decide) (by decide) ?_
      refine u_iload_n (pc := 45) F dX7_begin_45 1 rfl rfl ?_
      obtain ⟨b15, h⟩ := d_ab_some h
      refine u_aldI (v := pl 10 x1.toNatClampNeg) (pc := 46) F dX7_begin_46 (hL 4 0 10 (by decide) rfl) rfl b15 (congrFun (congrFun (show (upM σ 7 k sc) 4 0 = pl from e_pl) 10) _) ?_
      obtain ⟨b16, h⟩ := d_ab_some h
      refine u_astI1 (pc := 47) F dX7_begin_47 (hL 7 k 7 h_k rfl) rfl b16 ?_
      obtain ⟨g17, hg17, h⟩ := d_lt_some h
      refine u_mem (σ2 := (upM σ 7 k g17)) (by rw [hg17]) ?_
      refine u_aload_n (pc := 48) F dX7_begin_48 0 rfl rfl ?_
      refine u_getA (pc := 49) F dX7_begin_49 (hL 7 k 0 h_k rfl) ck_7 fl_7_18 rfl (by decide) (by decide) ?_
      refine u_iload_n (pc := 52) F dX7_begin_52 1 rfl rfl ?_
      refine u_aload_n (pc := 53) F dX7_begin_53 0 rfl rfl ?_
      refine u_getO (pc := 54) F dX7_begin_54 (hL 7 k 0 h_k rfl) ck_7 fl_7_36 rfl (by decide) rfl ?_
      refine u_getA (pc := 57) F dX7_begin_57 (hL 4 0 0 (by decide) rfl) ck_4 fl_7_59 rfl (by decide) (by decide) ?_
      refine u_iload_n (pc := 60) F dX7_begin_60 1 rfl rfl ?_
      obtain ⟨b18, h⟩ := d_ab_some h
      refine u_aldI (v := pl 13 x1.toNatClampNeg) (pc := 61) F dX7_begin_61 (hL 4 0 13 (by decide) rfl) rfl b18 (congrFun (congrFun (show (upM σ 7 k g17) 4 0 = pl from e_pl) 13) _) ?_
      obtain ⟨b19, h⟩ := d_ab_some h
      refine u_astI1 (pc := 62) F dX7_begin_62 (hL 7 k 8 h_k rfl) rfl b19 ?_
      obtain ⟨g20, hg20, h⟩ := d_lt_some h
      refine u_mem (σ2 := (upM σ 7 k g20)) (by rw [hg20]) ?_
      refine u_aload_n (pc := 63) F dX7_begin_63 0 rfl rfl ?_
      refine u_getA (pc := 64) F dX7_begin_64 (hL 7 k 0 h_k rfl) ck_7 fl_7_21 rfl (by decide) (by decide) ?_
      refine u_iload_n (pc := 67) F dX7_begin_67 1 rfl rfl ?_
      refine u_bipush (v := 60) (pc := 68) F dX7_begin_68 (by decide) ?_
      obtain ⟨b21, h⟩ := d_ab_some h
      refine u_astI1 (pc := 70) F dX7_begin_70 (hL 7 k 9 h_k rfl) rfl b21 ?_
      obtain ⟨g22, hg22, h⟩ := d_lt_some h
      refine u_mem (σ2 := (upM σ 7 k g22)) (by rw [hg22]) ?_
      obtain ⟨v23, hv23, h⟩ := d_lt_some h
      refine u_iinc (lv' := [(1, .int v23), (0, .ref (adr G (7, k, 0)))]) (pc := 71) F dX7_begin_71 1 rfl hv23.symm hY (by decide) rfl ?_
      refine u_goto (pc := 74) F 28 dX7_begin_74 (by decide) ?_
      refine u_lv (lv' := [(0, .ref (adr G (7, k, 0))), (1, .int v23)]) [1, 0] rfl ?_
      exact ih g22 v23 h
set_option maxHeartbeats 4000000 in
set_option maxRecDepth 100000 in
theorem c_X7_begin (G : G0) (hL : In G) (k : Nat) (h_k : k < 24) (σ : Mem) (sc : Grp) (pl : Grp) (e_sc : σ 7 k = sc) (e_pl : σ 4 0 = pl) (sc' : Grp) (h : fX7_begin sc pl = some sc') :
    CV G yX7_begin cX7_begin 3 2 [.ref (adr G (7, k, 0))] σ (upM σ 7 k (sc')) := by
  refine CV.of (by decide +kernel) (Nat.le_of_ble_eq_true rfl) (fun Y hY F hR => ?_)
  unfold fX7_begin at h
  have F : Fx Y G cX7_begin RX7 2 := F
  refine u_mem (σ2 := (upM σ 7 k sc)) (by rw [← e_sc]; simp only [upM_self]) ?_
  refine u_lv (lv' := [(0, .ref (adr G (7, k, 0)))]) [0] rfl ?_
  refine u_aload_n (pc := 0) F dX7_begin_0 0 rfl rfl ?_
  refine u_iconst (v := 0) (pc := 1) F dX7_begin_1 (by decide) ?_
  refine u_put1 (pc := 2) F dX7_begin_2 (hL 7 k 0 h_k rfl) ck_7 fl_7_40 rfl (by decide) rfl (ty0 := .int) (by decide +kernel) rfl rfl ?_
  obtain ⟨g1, hg1, h⟩ := d_lt_some h
  refine u_mem (σ2 := (upM σ 7 k g1)) (by rw [hg1]) ?_
  refine u_aload_n (pc := 5) F dX7_begin_5 0 rfl rfl ?_
  refine u_aload_n (pc := 6) F dX7_begin_6 0 rfl rfl ?_
  refine u_getO (pc := 7) F dX7_begin_7 (hL 7 k 0 h_k rfl) ck_7 fl_7_36 rfl (by decide) rfl ?_
  refine u_get (v := pl 0 1) (pc := 10) F dX7_begin_10 (hL 4 0 0 (by decide) rfl) ck_4 fl_7_44 rfl (by decide) (congrFun (congrFun (show (upM σ 7 k g1) 4 0 = pl from e_pl) 0) 1) ?_
  refine u_put1 (pc := 13) F dX7_begin_13 (hL 7 k 0 h_k rfl) ck_7 fl_7_49 rfl (by decide) rfl (ty0 := .int) (by decide +kernel) rfl rfl ?_
  obtain ⟨g2, hg2, h⟩ := d_lt_some h
  refine u_mem (σ2 := (upM σ 7 k g2)) (by rw [hg2]) ?_
  refine u_aload_n (pc := 16) F dX7_begin_16 0 rfl rfl ?_
  refine u_iconst (v := 0) (pc := 17) F dX7_begin_17 (by decide) ?_
  refine u_put1 (pc := 18) F dX7_begin_18 (hL 7 k 0 h_k rfl) ck_7 fl_7_50 rfl (by decide) rfl (ty0 := .int) (by decide +kernel) rfl rfl ?_
  obtain ⟨g3, hg3, h⟩ := d_lt_some h
  refine u_mem (σ2 := (upM σ 7 k g3)) (by rw [hg3]) ?_
  refine u_aload_n (pc := 21) F dX7_begin_21 0 rfl rfl ?_
  refine u_iconst (v := 0) (pc := 22) F dX7_begin_22 (by decide) ?_
  refine u_put1 (pc := 23) F dX7_begin_23 (hL 7 k 0 h_k rfl) ck_7 fl_7_53 rfl (by decide) rfl (ty0 := .int) (by decide +kernel) rfl rfl ?_
  obtain ⟨g4, hg4, h⟩ := d_lt_some h
  refine u_mem (σ2 := (upM σ 7 k g4)) (by rw [hg4]) ?_
  refine u_iconst (v := 0) (pc := 26) F dX7_begin_26 (by decide) ?_
  refine u_istore_n (lv' := [(1, .int (0 : Int32)), (0, .ref (adr G (7, k, 0)))]) (pc := 27) F dX7_begin_27 rfl hY (by decide) rfl ?_
  refine u_lv (lv' := [(0, .ref (adr G (7, k, 0))), (1, .int (0 : Int32))]) [1, 0] rfl ?_
  exact wX7_begin_28 Y G hL k h_k σ pl e_pl F hY sc' hR 1000 g4 (0 : Int32) h
/- RollingCodes$Scene.allOpenings -/
def fX7_allOpenings_4 (sc : Grp) (pl : Grp) : Nat → Int32 → Int32 → Option (Int32)
  | 0, _, _ => none
  | fu + 1, x1, x2 =>
    if x2 < (pl 0 3) then (d_ab x2 4 <| d_lt (x1 + (sc 10 x2.toNatClampNeg)) fun v3 => d_lt (x2 + (1 : Int32)) fun v4 => fX7_allOpenings_4 sc pl fu v3 v4) else (some x1)
def fX7_allOpenings (sc : Grp) (pl : Grp) : Option (Int32) :=
    fX7_allOpenings_4 sc pl 1000 (0 : Int32) (0 : Int32)
set_option maxHeartbeats 4000000 in
set_option maxRecDepth 100000 in
theorem wX7_allOpenings_4 (Y : Dy) (G : G0) (hL : In G) (k : Nat) (h_k : k < 24) (σ : Mem) (sc : Grp) (pl : Grp) (e_sc : σ 7 k = sc) (e_pl : σ 4 0 = pl) (F : Fx Y G cX7_allOpenings RX7 1) (hY : Y.2.2.2.2.2.2.2.2.2.2.2.1 = 3) (r : Int32) (hR : ∀ (pc : Nat) (lv : List (Nat × Value)), narrow .int (.int r) = .int r → decode cX7_allOpenings pc = .ok (.ireturn, 1) → U Y G σ pc lv [.int r]) :
    ∀ (fu : Nat) (x1 : Int32) (x2 : Int32), fX7_allOpenings_4 sc pl fu x1 x2 = some r → U Y G σ 4 [(0, .ref (adr G (7, k, 0))), (1, .int x1), (2, .int x2)] [] := by
  intro fu
  induction fu with
  | zero =>
    intro x1 x2 h
    rw [fX7_allOpenings_4] at h
    cases h
  | succ fu ih =>
    intro x1 x2 h
    rw [fX7_allOpenings_4] at h
    refine u_iload_n (pc := 4) F dX7_allOpenings_4 2 rfl rfl ?_
    refine u_aload_n (pc := 5) F dX7_allOpenings_5 0 rfl rfl ?_
    refine u_getO (pc := 6) F dX7_allOpenings_6 (hL 7 k 0 h_k rfl) ck_7 fl_7_36 rfl (by decide) rfl ?_
    refine u_get (v := pl 0 3) (pc := 9) F dX7_allOpenings_9 (hL 4 0 0 (by decide) rfl) ck_4 fl_7_76 rfl (by decide) (congrFun (congrFun (show σ 4 0 = pl from e_pl) 0) 3) ?_
    refine u_icmp_ge (pc := 12) F 30 dX7_allOpenings_12 (by decide) (fun c1 => ?_) (fun c1 => ?_)
    · rw [if_neg c1] at h
      refine u_iload_n (pc := 30) F dX7_allOpenings_30 1 rfl rfl ?_
      have h1 := Option.some.inj h
      subst h1
      exact hR _ _ rfl dX7_allOpenings_31
    · rw [if_pos c1] at h
      refine u_iload_n (pc := 15) F dX7_allOpenings_15 1 rfl rfl ?_
      refine u_aload_n (pc := 16) F dX7_allOpenings_16 0 rfl rfl ?_
      refine u_getA (pc := 17) F dX7_allOpenings_17 (hL 7 k 0 h_k rfl) ck_7 fl_7_24 rfl (by decide) (by decide) ?_
      refine u_iload_n (pc := 20) F dX7_allOpenings_20 2 rfl rfl ?_
      obtain ⟨b2, h⟩ := d_ab_some h
      refine u_aldI (v := sc 10 x2.toNatClampNeg) (pc := 21) F dX7_allOpenings_21 (hL 7 k 10 h_k rfl) rfl b2 (congrFun (congrFun (show σ 7 k = sc from e_sc) 10) _) ?_
      refine u_iadd (pc := 22) F dX7_allOpenings_22 ?_
      obtain ⟨v3, hv3, h⟩ := d_lt_some h
      refine u_topi hv3 ?_
      refine u_istore_n (lv' := [(1, .int v3), (0, .ref (adr G (7, k, 0))), (2, .int x2)]) (pc := 23) F dX7_allOpenings_23 rfl hY (by decide) rfl ?_
      obtain ⟨v4, hv4, h⟩ := d_lt_some h
      refine u_iinc (lv' := [(2, .int v4), (1, .int v3), (0, .ref (adr G (7, k, 0)))]) (pc := 24) F dX7_allOpenings_24 2 rfl hv4.symm hY (by decide) rfl ?_
      refine u_goto (pc := 27) F 4 dX7_allOpenings_27 (by decide) ?_
      refine u_lv (lv' := [(0, .ref (adr G (7, k, 0))), (1, .int v3), (2, .int v4)]) [2, 1, 0] rfl ?_
      exact ih v3 v4 h
set_option maxHeartbeats 4000000 in
set_option maxRecDepth 100000 in
theorem c_X7_allOpenings (G : G0) (hL : In G) (k : Nat) (h_k : k < 24) (σ : Mem) (sc : Grp) (pl : Grp) (e_sc : σ 7 k = sc) (e_pl : σ 4 0 = pl) (r : Int32) (h : fX7_allOpenings sc pl = some r) :
    CI G yX7_allOpenings cX7_allOpenings 3 .int 1 [.ref (adr G (7, k, 0))] σ r σ := by
  refine CI.of (by decide +kernel) (Nat.le_of_ble_eq_true rfl) (fun Y hY F hR => ?_)
  unfold fX7_allOpenings at h
  have F : Fx Y G cX7_allOpenings RX7 1 := F
  refine u_lv (lv' := [(0, .ref (adr G (7, k, 0)))]) [0] rfl ?_
  refine u_iconst (v := 0) (pc := 0) F dX7_allOpenings_0 (by decide) ?_
  refine u_istore_n (lv' := [(1, .int (0 : Int32)), (0, .ref (adr G (7, k, 0)))]) (pc := 1) F dX7_allOpenings_1 rfl hY (by decide) rfl ?_
  refine u_iconst (v := 0) (pc := 2) F dX7_allOpenings_2 (by decide) ?_
  refine u_istore_n (lv' := [(2, .int (0 : Int32)), (1, .int (0 : Int32)), (0, .ref (adr G (7, k, 0)))]) (pc := 3) F dX7_allOpenings_3 rfl hY (by decide) rfl ?_
  refine u_lv (lv' := [(0, .ref (adr G (7, k, 0))), (1, .int (0 : Int32)), (2, .int (0 : Int32))]) [2, 1, 0] rfl ?_
  exact wX7_allOpenings_4 Y G hL k h_k σ sc pl e_sc e_pl F hY r hR 1000 (0 : Int32) (0 : Int32) h
/- RollingCodes$Scene.copyFrom -/
def fX7_copyFrom (sc : Grp) (sd : Grp) : Option (Grp) :=
    d_lt (wr sc 0 1 (sd 0 1)) fun g1 => d_lt (wr g1 0 2 (sd 0 2)) fun g2 => d_lt (wr g2 0 3 (sd 0 3)) fun g3 => d_lt (wr g3 0 4 (sd 0 4)) fun g4 => d_lt (wa g4 6 (va_cpy (sd 6) (g4 6) (0 : Int32).toNatClampNeg (0 : Int32).toNatClampNeg (8 : Int32).toNatClampNeg)) fun g5 => d_lt (wa g5 7 (va_cpy (sd 7) (g5 7) (0 : Int32).toNatClampNeg (0 : Int32).toNatClampNeg (5 : Int32).toNatClampNeg)) fun g6 => d_lt (wa g6 8 (va_cpy (sd 8) (g6 8) (0 : Int32).toNatClampNeg (0 : Int32).toNatClampNeg (5 : Int32).toNatClampNeg)) fun g7 => d_lt (wa g7 9 (va_cpy (sd 9) (g7 9) (0 : Int32).toNatClampNeg (0 : Int32).toNatClampNeg (5 : Int32).toNatClampNeg)) fun g8 => d_lt (wa g8 10 (va_cpy (sd 10) (g8 10) (0 : Int32).toNatClampNeg (0 : Int32).toNatClampNeg (4 : Int32).toNatClampNeg)) fun g9 => d_lt (wa g9 11 (va_cpy (sd 11) (g9 11) (0 : Int32).toNatClampNeg (0 : Int32).toNatClampNeg (4 : Int32).toNatClampNeg)) fun g10 => d_lt (wa g10 12 (va_cpy (sd 12) (g10 12) (0 : Int32).toNatClampNeg (0 : Int32).toNatClampNeg (4 : Int32).toNatClampNeg)) fun g11 => d_lt (wa g11 13 (va_cpy (sd 13) (g11 13) (0 : Int32).toNatClampNeg (0 : Int32).toNatClampNeg (20 : Int32).toNatClampNeg)) fun g12 => some g12
set_option maxHeartbeats 4000000 in
set_option maxRecDepth 100000 in
theorem c_X7_copyFrom (G : G0) (hL : In G) (k : Nat) (h_k : k < 24) (k2 : Nat) (h_k2 : k2 < 24) (hne : ¬ k2 = k) (σ : Mem) (sc : Grp) (sd : Grp) (e_sc : σ 7 k = sc) (e_sd : σ 7 k2 = sd) (sc' : Grp) (h : fX7_copyFrom sc sd = some sc') :
    CV G yX7_copyFrom cX7_copyFrom 2 1 [.ref (adr G (7, k, 0)), .ref (adr G (7, k2, 0))] σ (upM σ 7 k (sc')) := by
  refine CV.of (by decide +kernel) (Nat.le_of_ble_eq_true rfl) (fun Y hY F hR => ?_)
  unfold fX7_copyFrom at h
  have F : Fx Y G cX7_copyFrom RX7 1 := F
  refine u_mem (σ2 := (upM σ 7 k sc)) (by rw [← e_sc]; simp only [upM_self]) ?_
  refine u_lv (lv' := [(0, .ref (adr G (7, k, 0))), (1, .ref (adr G (7, k2, 0)))]) [0, 1] rfl ?_
  refine u_aload_n (pc := 0) F dX7_copyFrom_0 0 rfl rfl ?_
  refine u_aload_n (pc := 1) F dX7_copyFrom_1 1 rfl rfl ?_
  refine u_get (v := sd 0 1) (pc := 2) F dX7_copyFrom_2 (hL 7 k2 0 h_k2 rfl) ck_7 fl_7_40 rfl (by decide) (congrFun (congrFun ((upM_ne (fun e => hne e.2)).trans e_sd) 0) 1) ?_
  refine u_put1 (pc := 5) F dX7_copyFrom_5 (hL 7 k 0 h_k rfl) ck_7 fl_7_40 rfl (by decide) rfl (ty0 := .int) (by decide +kernel) rfl rfl ?_
  obtain ⟨g1, hg1, h⟩ := d_lt_some h
  refine u_mem (σ2 := (upM σ 7 k g1)) (by rw [hg1]) ?_
  refine u_aload_n (pc := 8) F dX7_copyFrom_8 0 rfl rfl ?_
  refine u_aload_n (pc := 9) F dX7_copyFrom_9 1 rfl rfl ?_
  refine u_get (v := sd 0 2) (pc := 10) F dX7_copyFrom_10 (hL 7 k2 0 h_k2 rfl) ck_7 fl_7_49 rfl (by decide) (congrFun (congrFun ((upM_ne (fun e => hne e.2)).trans e_sd) 0) 2) ?_
  refine u_put1 (pc := 13) F dX7_copyFrom_13 (hL 7 k 0 h_k rfl) ck_7 fl_7_49 rfl (by decide) rfl (ty0 := .int) (by decide +kernel) rfl rfl ?_
  obtain ⟨g2, hg2, h⟩ := d_lt_some h
  refine u_mem (σ2 := (upM σ 7 k g2)) (by rw [hg2]) ?_
  refine u_aload_n (pc := 16) F dX7_copyFrom_16 0 rfl rfl ?_
  refine u_aload_n (pc := 17) F dX7_copyFrom_17 1 rfl rfl ?_
  refine u_get (v := sd 0 3) (pc := 18) F dX7_copyFrom_18 (hL 7 k2 0 h_k2 rfl) ck_7 fl_7_50 rfl (by decide) (congrFun (congrFun ((upM_ne (fun e => hne e.2)).trans e_sd) 0) 3) ?_
  refine u_put1 (pc := 21) F dX7_copyFrom_21 (hL 7 k 0 h_k rfl) ck_7 fl_7_50 rfl (by decide) rfl (ty0 := .int) (by decide +kernel) rfl rfl ?_
  obtain ⟨g3, hg3, h⟩ := d_lt_some h
  refine u_mem (σ2 := (upM σ 7 k g3)) (by rw [hg3]) ?_
  refine u_aload_n (pc := 24) F dX7_copyFrom_24 0 rfl rfl ?_
  refine u_aload_n (pc := 25) F dX7_copyFrom_25 1 rfl rfl ?_
  refine u_get (v := sd 0 4) (pc := 26) F dX7_copyFrom_26 (hL 7 k2 0 h_k2 rfl) ck_7 fl_7_53 rfl (by decide) (congrFun (congrFun ((upM_ne (fun e => hne e.2)).trans e_sd) 0) 4) ?_
  refine u_put1 (pc := 29) F dX7_copyFrom_29 (hL 7 k 0 h_k rfl) ck_7 fl_7_53 rfl (by decide) rfl (ty0 := .int) (by decide +kernel) rfl rfl ?_
  obtain ⟨g4, hg4, h⟩ := d_lt_some h
  refine u_mem (σ2 := (upM σ 7 k g4)) (by rw [hg4]) ?_
  refine u_aload_n (pc := 32) F dX7_copyFrom_32 1 rfl rfl ?_
  refine u_getA (pc := 33) F dX7_copyFrom_33 (hL 7 k2 0 h_k2 rfl) ck_7 fl_7_9 rfl (by decide) (by decide) ?_
  refine u_iconst (v := 0) (pc := 36) F dX7_copyFrom_36 (by decide) ?_
  refine u_aload_n (pc := 37) F dX7_copyFrom_37 0 rfl rfl ?_
  refine u_getA (pc := 38) F dX7_copyFrom_38 (hL 7 k 0 h_k rfl) ck_7 fl_7_9 rfl (by decide) (by decide) ?_
  refine u_iconst (v := 0) (pc := 41) F dX7_copyFrom_41 (by decide) ?_
  refine u_bipush (v := 8) (pc := 42) F dX7_copyFrom_42 (by decide) ?_
  refine u_copy (pc := 44) F (hL 7 k2 6 h_k2 rfl) rfl (hL 7 k 6 h_k rfl) rfl mk_7_70 ac_n ac_s ac_i (by decide) (by decide) (by decide) (by decide) (by decide) (by decide) (Nat.le_of_ble_eq_true rfl) dX7_copyFrom_44 ?_
  refine u_mem (σ2 := (upM σ 7 k (wa g4 6 (va_cpy (sd 6) (g4 6) (0 : Int32).toNatClampNeg (0 : Int32).toNatClampNeg (8 : Int32).toNatClampNeg)))) (by rw [show (upM σ 7 k g4) 7 k = g4 from upM_same _ _ _ _, show (upM σ 7 k g4) 7 k2 = sd from ((upM_ne (fun e => hne e.2)).trans e_sd), upM_upM]) ?_
  obtain ⟨g5, hg5, h⟩ := d_lt_some h
  refine u_mem (σ2 := (upM σ 7 k g5)) (by rw [hg5]) ?_
  refine u_aload_n (pc := 47) F dX7_copyFrom_47 1 rfl rfl ?_
  refine u_getA (pc := 48) F dX7_copyFrom_48 (hL 7 k2 0 h_k2 rfl) ck_7 fl_7_15 rfl (by decide) (by decide) ?_
  refine u_iconst (v := 0) (pc := 51) F dX7_copyFrom_51 (by decide) ?_
  refine u_aload_n (pc := 52) F dX7_copyFrom_52 0 rfl rfl ?_
  refine u_getA (pc := 53) F dX7_copyFrom_53 (hL 7 k 0 h_k rfl) ck_7 fl_7_15 rfl (by decide) (by decide) ?_
  refine u_iconst (v := 0) (pc := 56) F dX7_copyFrom_56 (by decide) ?_
  refine u_iconst (v := 5) (pc := 57) F dX7_copyFrom_57 (by decide) ?_
  refine u_copy (pc := 58) F (hL 7 k2 7 h_k2 rfl) rfl (hL 7 k 7 h_k rfl) rfl mk_7_70 ac_n ac_s ac_i (by decide) (by decide) (by decide) (by decide) (by decide) (by decide) (Nat.le_of_ble_eq_true rfl) dX7_copyFrom_58 ?_
  refine u_mem (σ2 := (upM σ 7 k (wa g5 7 (va_cpy (sd 7) (g5 7) (0 : Int32).toNatClampNeg (0 : Int32).toNatClampNeg (5 : Int32).toNatClampNeg)))) (by rw [show (upM σ 7 k g5) 7 k = g5 from upM_same _ _ _ _, show (upM σ 7 k g5) 7 k2 = sd from ((upM_ne (fun e => hne e.2)).trans e_sd), upM_upM]) ?_
  obtain ⟨g6, hg6, h⟩ := d_lt_some h
  refine u_mem (σ2 := (upM σ 7 k g6)) (by rw [hg6]) ?_
  refine u_aload_n (pc := 61) F dX7_copyFrom_61 1 rfl rfl ?_
  refine u_getA (pc := 62) F dX7_copyFrom_62 (hL 7 k2 0 h_k2 rfl) ck_7 fl_7_18 rfl (by decide) (by decide) ?_
  refine u_iconst (v := 0) (pc := 65) F dX7_copyFrom_65 (by decide) ?_
  refine u_aload_n (pc := 66) F dX7_copyFrom_66 0 rfl rfl ?_
  refine u_getA (pc := 67) F dX7_copyFrom_67 (hL 7 k 0 h_k rfl) ck_7 fl_7_18 rfl (by decide) (by decide) ?_
  refine u_iconst (v := 0) (pc := 70) F dX7_copyFrom_70 (by decide) ?_
  refine u_iconst (v := 5) (pc := 71) F dX7_copyFrom_71 (by decide) ?_
  refine u_copy (pc := 72) F (hL 7 k2 8 h_k2 rfl) rfl (hL 7 k 8 h_k rfl) rfl mk_7_70 ac_n ac_s ac_i (by decide) (by decide) (by decide) (by decide) (by decide) (by decide) (Nat.le_of_ble_eq_true rfl) dX7_copyFrom_72 ?_
  refine u_mem (σ2 := (upM σ 7 k (wa g6 8 (va_cpy (sd 8) (g6 8) (0 : Int32).toNatClampNeg (0 : Int32).toNatClampNeg (5 : Int32).toNatClampNeg)))) (by rw [show (upM σ 7 k g6) 7 k = g6 from upM_same _ _ _ _, show (upM σ 7 k g6) 7 k2 = sd from ((upM_ne (fun e => hne e.2)).trans e_sd), upM_upM]) ?_
  obtain ⟨g7, hg7, h⟩ := d_lt_some h
  refine u_mem (σ2 := (upM σ 7 k g7)) (by rw [hg7]) ?_
  refine u_aload_n (pc := 75) F dX7_copyFrom_75 1 rfl rfl ?_
  refine u_getA (pc := 76) F dX7_copyFrom_76 (hL 7 k2 0 h_k2 rfl) ck_7 fl_7_21 rfl (by decide) (by decide) ?_
  refine u_iconst (v := 0) (pc := 79) F dX7_copyFrom_79 (by decide) ?_
  refine u_aload_n (pc := 80) F dX7_copyFrom_80 0 rfl rfl ?_
  refine u_getA (pc := 81) F dX7_copyFrom_81 (hL 7 k 0 h_k rfl) ck_7 fl_7_21 rfl (by decide) (by decide) ?_
  refine u_iconst (v := 0) (pc := 84) F dX7_copyFrom_84 (by decide) ?_
  refine u_iconst (v := 5) (pc := 85) F dX7_copyFrom_85 (by decide) ?_
  refine u_copy (pc := 86) F (hL 7 k2 9 h_k2 rfl) rfl (hL 7 k 9 h_k rfl) rfl mk_7_70 ac_n ac_s ac_i (by decide) (by decide) (by decide) (by decide) (by decide) (by decide) (Nat.le_of_ble_eq_true rfl) dX7_copyFrom_86 ?_
  refine u_mem (σ2 := (upM σ 7 k (wa g7 9 (va_cpy (sd 9) (g7 9) (0 : Int32).toNatClampNeg (0 : Int32).toNatClampNeg (5 : Int32).toNatClampNeg)))) (by rw [show (upM σ 7 k g7) 7 k = g7 from upM_same _ _ _ _, show (upM σ 7 k g7) 7 k2 = sd from ((upM_ne (fun e => hne e.2)).trans e_sd), upM_upM]) ?_
  obtain ⟨g8, hg8, h⟩ := d_lt_some h
  refine u_mem (σ2 := (upM σ 7 k g8)) (by rw [hg8]) ?_
  refine u_aload_n (pc := 89) F dX7_copyFrom_89 1 rfl rfl ?_
  refine u_getA (pc := 90) F dX7_copyFrom_90 (hL 7 k2 0 h_k2 rfl) ck_7 fl_7_24 rfl (by decide) (by decide) ?_
  refine u_iconst (v := 0) (pc := 93) F dX7_copyFrom_93 (by decide) ?_
  refine u_aload_n (pc := 94) F dX7_copyFrom_94 0 rfl rfl ?_
  refine u_getA (pc := 95) F dX7_copyFrom_95 (hL 7 k 0 h_k rfl) ck_7 fl_7_24 rfl (by decide) (by decide) ?_
  refine u_iconst (v := 0) (pc := 98) F dX7_copyFrom_98 (by decide) ?_
  refine u_iconst (v := 4) (pc := 99) F dX7_copyFrom_99 (by decide) ?_
  refine u_copy (pc := 100) F (hL 7 k2 10 h_k2 rfl) rfl (hL 7 k 10 h_k rfl) rfl mk_7_70 ac_n ac_s ac_i (by decide) (by decide) (by decide) (by decide) (by decide) (by decide) (Nat.le_of_ble_eq_true rfl) dX7_copyFrom_100 ?_
  refine u_mem (σ2 := (upM σ 7 k (wa g8 10 (va_cpy (sd 10) (g8 10) (0 : Int32).toNatClampNeg (0 : Int32).toNatClampNeg (4 : Int32).toNatClampNeg)))) (by rw [show (upM σ 7 k g8) 7 k = g8 from upM_same _ _ _ _, show (upM σ 7 k g8) 7 k2 = sd from ((upM_ne (fun e => hne e.2)).trans e_sd), upM_upM]) ?_
  obtain ⟨g9, hg9, h⟩ := d_lt_some h
  refine u_mem (σ2 := (upM σ 7 k g9)) (by rw [hg9]) ?_
  refine u_aload_n (pc := 103) F dX7_copyFrom_103 1 rfl rfl ?_
  refine u_getA (pc := 104) F dX7_copyFrom_104 (hL 7 k2 0 h_k2 rfl) ck_7 fl_7_27 rfl (by decide) (by decide) ?_
  refine u_iconst (v := 0) (pc := 107) F dX7_copyFrom_107 (by decide) ?_
  refine u_aload_n (pc := 108) F dX7_copyFrom_108 0 rfl rfl ?_
  refine u_getA (pc := 109) F dX7_copyFrom_109 (hL 7 k 0 h_k rfl) ck_7 fl_7_27 rfl (by decide) (by decide) ?_
  refine u_iconst (v := 0) (pc := 112) F dX7_copyFrom_112 (by decide) ?_
  refine u_iconst (v := 4) (pc := 113) F dX7_copyFrom_113 (by decide) ?_
  refine u_copy (pc := 114) F (hL 7 k2 11 h_k2 rfl) rfl (hL 7 k 11 h_k rfl) rfl mk_7_70 ac_n ac_s ac_i (by decide) (by decide) (by decide) (by decide) (by decide) (by decide) (Nat.le_of_ble_eq_true rfl) dX7_copyFrom_114 ?_
  refine u_mem (σ2 := (upM σ 7 k (wa g9 11 (va_cpy (sd 11) (g9 11) (0 : Int32).toNatClampNeg (0 : Int32).toNatClampNeg (4 : Int32).toNatClampNeg)))) (by rw [show (upM σ 7 k g9) 7 k = g9 from upM_same _ _ _ _, show (upM σ 7 k g9) 7 k2 = sd from ((upM_ne (fun e => hne e.2)).trans e_sd), upM_upM]) ?_
  obtain ⟨g10, hg10, h⟩ := d_lt_some h
  refine u_mem (σ2 := (upM σ 7 k g10)) (by rw [hg10]) ?_
  refine u_aload_n (pc := 117) F dX7_copyFrom_117 1 rfl rfl ?_
  refine u_getA (pc := 118) F dX7_copyFrom_118 (hL 7 k2 0 h_k2 rfl) ck_7 fl_7_30 rfl (by decide) (by decide) ?_
  refine u_iconst (v := 0) (pc := 121) F dX7_copyFrom_121 (by decide) ?_
  refine u_aload_n (pc := 122) F dX7_copyFrom_122 0 rfl rfl ?_
  refine u_getA (pc := 123) F dX7_copyFrom_123 (hL 7 k 0 h_k rfl) ck_7 fl_7_30 rfl (by decide) (by decide) ?_
  refine u_iconst (v := 0) (pc := 126) F dX7_copyFrom_126 (by decide) ?_
  refine u_iconst (v := 4) (pc := 127) F dX7_copyFrom_127 (by decide) ?_
  refine u_copy (pc := 128) F (hL 7 k2 12 h_k2 rfl) rfl (hL 7 k 12 h_k rfl) rfl mk_7_70 ac_n ac_s ac_i (by decide) (by decide) (by decide) (by decide) (by decide) (by decide) (Nat.le_of_ble_eq_true rfl) dX7_copyFrom_128 ?_
  refine u_mem (σ2 := (upM σ 7 k (wa g10 12 (va_cpy (sd 12) (g10 12) (0 : Int32).toNatClampNeg (0 : Int32).toNatClampNeg (4 : Int32).toNatClampNeg)))) (by rw [show (upM σ 7 k g10) 7 k = g10 from upM_same _ _ _ _, show (upM σ 7 k g10) 7 k2 = sd from ((upM_ne (fun e => hne e.2)).trans e_sd), upM_upM]) ?_
  obtain ⟨g11, hg11, h⟩ := d_lt_some h
  refine u_mem (σ2 := (upM σ 7 k g11)) (by rw [hg11]) ?_
  refine u_aload_n (pc := 131) F dX7_copyFrom_131 1 rfl rfl ?_
  refine u_getA (pc := 132) F dX7_copyFrom_132 (hL 7 k2 0 h_k2 rfl) ck_7 fl_7_33 rfl (by decide) (by decide) ?_
  refine u_iconst (v := 0) (pc := 135) F dX7_copyFrom_135 (by decide) ?_
  refine u_aload_n (pc := 136) F dX7_copyFrom_136 0 rfl rfl ?_
  refine u_getA (pc := 137) F dX7_copyFrom_137 (hL 7 k 0 h_k rfl) ck_7 fl_7_33 rfl (by decide) (by decide) ?_
  refine u_iconst (v := 0) (pc := 140) F dX7_copyFrom_140 (by decide) ?_
  refine u_bipush (v := 20) (pc := 141) F dX7_copyFrom_141 (by decide) ?_
  refine u_copy (pc := 143) F (hL 7 k2 13 h_k2 rfl) rfl (hL 7 k 13 h_k rfl) rfl mk_7_70 ac_n ac_s ac_i (by decide) (by decide) (by decide) (by decide) (by decide) (by decide) (Nat.le_of_ble_eq_true rfl) dX7_copyFrom_143 ?_
  refine u_mem (σ2 := (upM σ 7 k (wa g11 13 (va_cpy (sd 13) (g11 13) (0 : Int32).toNatClampNeg (0 : Int32).toNatClampNeg (20 : Int32).toNatClampNeg)))) (by rw [show (upM σ 7 k g11) 7 k = g11 from upM_same _ _ _ _, show (upM σ 7 k g11) 7 k2 = sd from ((upM_ne (fun e => hne e.2)).trans e_sd), upM_upM]) ?_
  obtain ⟨g12, hg12, h⟩ := d_lt_some h
  refine u_mem (σ2 := (upM σ 7 k g12)) (by rw [hg12]) ?_
  have h1 := Option.some.inj h
  subst h1
  exact hR _ _ dX7_copyFrom_146
/- RollingCodes$Scene.rangeNow -/
def fX7_rangeNow_29 (sc : Grp) (pl : Grp)  (x1 : Int32) (s0 : Int32) : Option (Int32) :=
    if s0 = 0 then (d_ab x1 5 <| some (pl 11 x1.toNatClampNeg)) else (d_ab x1 5 <| some ((pl 11 x1.toNatClampNeg) / (2 : Int32)))
def fX7_rangeNow_28 (sc : Grp) (pl : Grp)  (x1 : Int32) : Option (Int32) :=
    fX7_rangeNow_29 sc pl x1 (0 : Int32)
def fX7_rangeNow (sc : Grp) (pl : Grp) (x1 : Int32) : Option (Int32) :=
    d_ab x1 5 <| if (pl 9 x1.toNatClampNeg) = (2 : Int32) then (d_ab x1 5 <| if (sc 9 x1.toNatClampNeg) < (20 : Int32) then (fX7_rangeNow_29 sc pl x1 (1 : Int32)) else (fX7_rangeNow_28 sc pl x1)) else (fX7_rangeNow_28 sc pl x1)
set_option maxHeartbeats 4000000 in
set_option maxRecDepth 100000 in
theorem wX7_rangeNow_29 (Y : Dy) (G : G0) (hL : In G) (k : Nat) (h_k : k < 24) (σ : Mem) (sc : Grp) (pl : Grp) (e_sc : σ 7 k = sc) (e_pl : σ 4 0 = pl) (F : Fx Y G cX7_rangeNow RX7 1) (hY : Y.2.2.2.2.2.2.2.2.2.2.2.1 = 3) (r : Int32) (hR : ∀ (pc : Nat) (lv : List (Nat × Value)), narrow .int (.int r) = .int r → decode cX7_rangeNow pc = .ok (.ireturn, 1) → U Y G σ pc lv [.int r]) :
    ∀ (x1 : Int32) (s0 : Int32), fX7_rangeNow_29 sc pl x1 s0 = some r → U Y G σ 29 [(0, .ref (adr G (7, k, 0))), (1, .int x1)] [.int s0] := by
  intro x1 s0 h
  unfold fX7_rangeNow_29 at h
  refine u_istore_n (lv' := [(2, .int s0), (0, .ref (adr G (7, k, 0))), (1, .int x1)]) (pc := 29) F dX7_rangeNow_29 rfl hY (by decide) rfl ?_
  refine u_iload_n (pc := 30) F dX7_rangeNow_30 0 rfl rfl ?_
  refine u_if_eq (pc := 31) F 48 dX7_rangeNow_31 (by decide) (fun c3 => ?_) (fun c3 => ?_)
  · rw [if_pos c3] at h
    refine u_aload_n (pc := 48) F dX7_rangeNow_48 1 rfl rfl ?_
    refine u_getO (pc := 49) F dX7_rangeNow_49 (hL 7 k 0 h_k rfl) ck_7 fl_7_36 rfl (by decide) rfl ?_
    refine u_getA (pc := 52) F dX7_rangeNow_52 (hL 4 0 0 (by decide) rfl) ck_4 fl_7_120 rfl (by decide) (by decide) ?_
    refine u_iload_n (pc := 55) F dX7_rangeNow_55 2 rfl rfl ?_
    obtain ⟨b4, h⟩ := d_ab_some h
    refine u_aldI (v := pl 11 x1.toNatClampNeg) (pc := 56) F dX7_rangeNow_56 (hL 4 0 11 (by decide) rfl) rfl b4 (congrFun (congrFun (show σ 4 0 = pl from e_pl) 11) _) ?_
    have h1 := Option.some.inj h
    subst h1
    exact hR _ _ rfl dX7_rangeNow_57
  · rw [if_neg c3] at h
    refine u_aload_n (pc := 34) F dX7_rangeNow_34 1 rfl rfl ?_
    refine u_getO (pc := 35) F dX7_rangeNow_35 (hL 7 k 0 h_k rfl) ck_7 fl_7_36 rfl (by decide) rfl ?_
    refine u_getA (pc := 38) F dX7_rangeNow_38 (hL 4 0 0 (by decide) rfl) ck_4 fl_7_120 rfl (by decide) (by decide) ?_
    refine u_iload_n (pc := 41) F dX7_rangeNow_41 2 rfl rfl ?_
    obtain ⟨b5, h⟩ := d_ab_some h
    refine u_aldI (v := pl 11 x1.toNatClampNeg) (pc := 42) F dX7_rangeNow_42 (hL 4 0 11 (by decide) rfl) rfl b5 (congrFun (congrFun (show σ 4 0 = pl from e_pl) 11) _) ?_
    refine u_iconst (v := 2) (pc := 43) F dX7_rangeNow_43 (by decide) ?_
    refine u_idiv (pc := 44) F dX7_rangeNow_44 (by decide) ?_
    refine u_goto (pc := 45) F 57 dX7_rangeNow_45 (by decide) ?_
    have h1 := Option.some.inj h
    subst h1
    exact hR _ _ rfl dX7_rangeNow_57
set_option maxHeartbeats 4000000 in
set_option maxRecDepth 100000 in
theorem wX7_rangeNow_28 (Y : Dy) (G : G0) (hL : In G) (k : Nat) (h_k : k < 24) (σ : Mem) (sc : Grp) (pl : Grp) (e_sc : σ 7 k = sc) (e_pl : σ 4 0 = pl) (F : Fx Y G cX7_rangeNow RX7 1) (hY : Y.2.2.2.2.2.2.2.2.2.2.2.1 = 3) (r : Int32) (hR : ∀ (pc : Nat) (lv : List (Nat × Value)), narrow .int (.int r) = .int r → decode cX7_rangeNow pc = .ok (.ireturn, 1) → U Y G σ pc lv [.int r]) :
    ∀ (x1 : Int32), fX7_rangeNow_28 sc pl x1 = some r → U Y G σ 28 [(0, .ref (adr G (7, k, 0))), (1, .int x1)] [] := by
  intro x1 h
  unfold fX7_rangeNow_28 at h
  refine u_iconst (v := 0) (pc := 28) F dX7_rangeNow_28 (by decide) ?_
  exact wX7_rangeNow_29 Y G hL k h_k σ sc pl e_sc e_pl F hY r hR x1 (0 : Int32) h
set_option maxHeartbeats 4000000 in
set_option maxRecDepth 100000 in
theorem c_X7_rangeNow (G : G0) (hL : In G) (k : Nat) (h_k : k < 24) (x1 : Int32) (σ : Mem) (sc : Grp) (pl : Grp) (e_sc : σ 7 k = sc) (e_pl : σ 4 0 = pl) (r : Int32) (h : fX7_rangeNow sc pl x1 = some r) :
    CI G yX7_rangeNow cX7_rangeNow 3 .int 1 [.ref (adr G (7, k, 0)), .int x1] σ r σ := by
  refine CI.of (by decide +kernel) (Nat.le_of_ble_eq_true rfl) (fun Y hY F hR => ?_)
  unfold fX7_rangeNow at h
  have F : Fx Y G cX7_rangeNow RX7 1 := F
  refine u_lv (lv' := [(0, .ref (adr G (7, k, 0))), (1, .int x1)]) [0, 1] rfl ?_
  refine u_aload_n (pc := 0) F dX7_rangeNow_0 0 rfl rfl ?_
  refine u_getO (pc := 1) F dX7_rangeNow_1 (hL 7 k 0 h_k rfl) ck_7 fl_7_36 rfl (by decide) rfl ?_
  refine u_getA (pc := 4) F dX7_rangeNow_4 (hL 4 0 0 (by decide) rfl) ck_4 fl_7_117 rfl (by decide) (by decide) ?_
  refine u_iload_n (pc := 7) F dX7_rangeNow_7 1 rfl rfl ?_
  obtain ⟨b1, h⟩ := d_ab_some h
  refine u_aldI (v := pl 9 x1.toNatClampNeg) (pc := 8) F dX7_rangeNow_8 (hL 4 0 9 (by decide) rfl) rfl b1 (congrFun (congrFun (show σ 4 0 = pl from e_pl) 9) _) ?_
  refine u_iconst (v := 2) (pc := 9) F dX7_rangeNow_9 (by decide) ?_
  refine u_icmp_ne (pc := 10) F 28 dX7_rangeNow_10 (by decide) (fun c2 => ?_) (fun c2 => ?_)
  · rw [if_neg c2] at h
    exact wX7_rangeNow_28 Y G hL k h_k σ sc pl e_sc e_pl F hY r hR x1 h
  · rw [if_pos c2] at h
    refine u_aload_n (pc := 13) F dX7_rangeNow_13 0 rfl rfl ?_
    refine u_getA (pc := 14) F dX7_rangeNow_14 (hL 7 k 0 h_k rfl) ck_7 fl_7_21 rfl (by decide) (by decide) ?_
    refine u_iload_n (pc := 17) F dX7_rangeNow_17 1 rfl rfl ?_
    obtain ⟨b6, h⟩ := d_ab_some h
    refine u_aldI (v := sc 9 x1.toNatClampNeg) (pc := 18) F dX7_rangeNow_18 (hL 7 k 9 h_k rfl) rfl b6 (congrFun (congrFun (show σ 7 k = sc from e_sc) 9) _) ?_
    refine u_bipush (v := 20) (pc := 19) F dX7_rangeNow_19 (by decide) ?_
    refine u_icmp_ge (pc := 21) F 28 dX7_rangeNow_21 (by decide) (fun c7 => ?_) (fun c7 => ?_)
    · rw [if_neg c7] at h
      exact wX7_rangeNow_28 Y G hL k h_k σ sc pl e_sc e_pl F hY r hR x1 h
    · rw [if_pos c7] at h
      refine u_iconst (v := 1) (pc := 24) F dX7_rangeNow_24 (by decide) ?_
      refine u_goto (pc := 25) F 29 dX7_rangeNow_25 (by decide) ?_
      exact wX7_rangeNow_29 Y G hL k h_k σ sc pl e_sc e_pl F hY r hR x1 (1 : Int32) h
/- RollingCodes$Scene.codeAhead -/
def fX7_codeAhead (sc : Grp) (pl : Grp) (x1 : Int32) (x2 : Int32) : Option (Int32) :=
    d_ab x1 5 <| d_ab x1 5 <| d_bd (fX10_codeOf (pl 12 x1.toNatClampNeg) (jrem ((sc 8 x1.toNatClampNeg) + x2) (10000 : Int32))) fun q3 => some q3
set_option maxHeartbeats 4000000 in
set_option maxRecDepth 100000 in
theorem c_X7_codeAhead (G : G0) (hL : In G) (k : Nat) (h_k : k < 24) (x1 : Int32) (x2 : Int32) (σ : Mem) (sc : Grp) (pl : Grp) (e_sc : σ 7 k = sc) (e_pl : σ 4 0 = pl) (r : Int32) (h : fX7_codeAhead sc pl x1 x2 = some r) :
    CI G yX7_codeAhead cX7_codeAhead 3 .int 2 [.ref (adr G (7, k, 0)), .int x1, .int x2] σ r σ := by
  refine CI.of (by decide +kernel) (Nat.le_of_ble_eq_true rfl) (fun Y hY F hR => ?_)
  unfold fX7_codeAhead at h
  have F : Fx Y G cX7_codeAhead RX7 2 := F
  refine u_lv (lv' := [(0, .ref (adr G (7, k, 0))), (1, .int x1), (2, .int x2)]) [0, 1, 2] rfl ?_
  refine u_aload_n (pc := 0) F dX7_codeAhead_0 0 rfl rfl ?_
  refine u_getO (pc := 1) F dX7_codeAhead_1 (hL 7 k 0 h_k rfl) ck_7 fl_7_36 rfl (by decide) rfl ?_
  refine u_getA (pc := 4) F dX7_codeAhead_4 (hL 4 0 0 (by decide) rfl) ck_4 fl_7_79 rfl (by decide) (by decide) ?_
  refine u_iload_n (pc := 7) F dX7_codeAhead_7 1 rfl rfl ?_
  obtain ⟨b1, h⟩ := d_ab_some h
  refine u_aldI (v := pl 12 x1.toNatClampNeg) (pc := 8) F dX7_codeAhead_8 (hL 4 0 12 (by decide) rfl) rfl b1 (congrFun (congrFun (show σ 4 0 = pl from e_pl) 12) _) ?_
  refine u_aload_n (pc := 9) F dX7_codeAhead_9 0 rfl rfl ?_
  refine u_getA (pc := 10) F dX7_codeAhead_10 (hL 7 k 0 h_k rfl) ck_7 fl_7_18 rfl (by decide) (by decide) ?_
  refine u_iload_n (pc := 13) F dX7_codeAhead_13 1 rfl rfl ?_
  obtain ⟨b2, h⟩ := d_ab_some h
  refine u_aldI (v := sc 8 x1.toNatClampNeg) (pc := 14) F dX7_codeAhead_14 (hL 7 k 8 h_k rfl) rfl b2 (congrFun (congrFun (show σ 7 k = sc from e_sc) 8) _) ?_
  refine u_iload_n (pc := 15) F dX7_codeAhead_15 2 rfl rfl ?_
  refine u_iadd (pc := 16) F dX7_codeAhead_16 ?_
  refine u_sipush (v := 10000) (pc := 17) F dX7_codeAhead_17 (by decide) ?_
  refine u_irem (pc := 20) F dX7_codeAhead_20 (by decide) ?_
  obtain ⟨q3, hq3, h⟩ := d_bd_some h
  refine u_callSi (pc := 21) F (As := [.int (pl 12 x1.toNatClampNeg), .int (jrem ((sc 8 x1.toNatClampNeg) + x2) (10000 : Int32))]) (c_X10_codeOf G hL (pl 12 x1.toNatClampNeg) (jrem ((sc 8 x1.toNatClampNeg) + x2) (10000 : Int32)) σ q3 hq3) ys_X10_codeOf ml_7_82 (by decide) rfl rfl (Nat.le_of_ble_eq_true rfl) dX7_codeAhead_21 ?_
  have h1 := Option.some.inj h
  subst h1
  exact hR _ _ rfl dX7_codeAhead_24
/- RollingCodes$Scene.nextCode -/
def fX7_nextCode (sc : Grp) (pl : Grp) (x1 : Int32) : Option (Int32 × Grp) :=
    d_ab x1 5 <| d_bd (fX4_stride pl x1) fun q2 => d_ab x1 5 <| d_lt (wr sc 8 x1.toNatClampNeg (jrem ((sc 8 x1.toNatClampNeg) + q2) (10000 : Int32))) fun g4 => d_bd (fX7_codeAhead g4 pl x1 (0 : Int32)) fun q5 => some (q5, g4)
set_option maxHeartbeats 4000000 in
set_option maxRecDepth 100000 in
theorem c_X7_nextCode (G : G0) (hL : In G) (k : Nat) (h_k : k < 24) (x1 : Int32) (σ : Mem) (sc : Grp) (pl : Grp) (e_sc : σ 7 k = sc) (e_pl : σ 4 0 = pl) (r : Int32) (sc' : Grp) (h : fX7_nextCode sc pl x1 = some (r, sc')) :
    CI G yX7_nextCode cX7_nextCode 2 .int 3 [.ref (adr G (7, k, 0)), .int x1] σ r (upM σ 7 k (sc')) := by
  refine CI.of (by decide +kernel) (Nat.le_of_ble_eq_true rfl) (fun Y hY F hR => ?_)
  unfold fX7_nextCode at h
  have F : Fx Y G cX7_nextCode RX7 3 := F
  refine u_mem (σ2 := (upM σ 7 k sc)) (by rw [← e_sc]; simp only [upM_self]) ?_
  refine u_lv (lv' := [(0, .ref (adr G (7, k, 0))), (1, .int x1)]) [0, 1] rfl ?_
  refine u_aload_n (pc := 0) F dX7_nextCode_0 0 rfl rfl ?_
  refine u_getA (pc := 1) F dX7_nextCode_1 (hL 7 k 0 h_k rfl) ck_7 fl_7_18 rfl (by decide) (by decide) ?_
  refine u_iload_n (pc := 4) F dX7_nextCode_4 1 rfl rfl ?_
  refine u_aload_n (pc := 5) F dX7_nextCode_5 0 rfl rfl ?_
  refine u_getA (pc := 6) F dX7_nextCode_6 (hL 7 k 0 h_k rfl) ck_7 fl_7_18 rfl (by decide) (by decide) ?_
  refine u_iload_n (pc := 9) F dX7_nextCode_9 1 rfl rfl ?_
  obtain ⟨b1, h⟩ := d_ab_some h
  refine u_aldI1 (pc := 10) F dX7_nextCode_10 (hL 7 k 8 h_k rfl) rfl b1 ?_
  refine u_aload_n (pc := 11) F dX7_nextCode_11 0 rfl rfl ?_
  refine u_getO (pc := 12) F dX7_nextCode_12 (hL 7 k 0 h_k rfl) ck_7 fl_7_36 rfl (by decide) rfl ?_
  refine u_iload_n (pc := 15) F dX7_nextCode_15 1 rfl rfl ?_
  obtain ⟨q2, hq2, h⟩ := d_bd_some h
  refine u_calli (pc := 16) F (As := [.int x1]) (c_X4_stride G hL 0 (by decide) x1 (upM σ 7 k sc) pl ((show (upM σ 7 k sc) 4 0 = pl from e_pl)) q2 hq2) yv_X4_stride ml_7_103 (hL 4 0 0 (by decide) rfl) rfl (by decide) rfl rfl (Nat.le_of_ble_eq_true rfl) dX7_nextCode_16 ?_
  refine u_iadd (pc := 19) F dX7_nextCode_19 ?_
  refine u_sipush (v := 10000) (pc := 20) F dX7_nextCode_20 (by decide) ?_
  refine u_irem (pc := 23) F dX7_nextCode_23 (by decide) ?_
  obtain ⟨b3, h⟩ := d_ab_some h
  refine u_astI1 (pc := 24) F dX7_nextCode_24 (hL 7 k 8 h_k rfl) rfl b3 ?_
  obtain ⟨g4, hg4, h⟩ := d_lt_some h
  refine u_mem (σ2 := (upM σ 7 k g4)) (by rw [hg4]) ?_
  refine u_aload_n (pc := 25) F dX7_nextCode_25 0 rfl rfl ?_
  refine u_iload_n (pc := 26) F dX7_nextCode_26 1 rfl rfl ?_
  refine u_iconst (v := 0) (pc := 27) F dX7_nextCode_27 (by decide) ?_
  obtain ⟨q5, hq5, h⟩ := d_bd_some h
  refine u_calli (pc := 28) F (As := [.int x1, .int (0 : Int32)]) (c_X7_codeAhead G hL k h_k x1 (0 : Int32) (upM σ 7 k g4) g4 pl (upM_same _ _ _ _) ((show (upM σ 7 k g4) 4 0 = pl from e_pl)) q5 hq5) yv_X7_codeAhead ml_7_123 (hL 7 k 0 h_k rfl) rfl (by decide) rfl rfl (Nat.le_of_ble_eq_true rfl) dX7_nextCode_28 ?_
  have h1 := Option.some.inj h
  obtain ⟨hj0, hr0⟩ := Prod.mk.inj h1
  subst hj0
  subst hr0
  exact hR _ _ rfl dX7_nextCode_31
/- RollingCodes$Scene.isNoisy -/
def fX7_isNoisy (sc : Grp) (x1 : Int32) : Option (Int32) :=
    if (((sc 0 3) >>> (x1 &&& 31)) &&& (1 : Int32)) = (1 : Int32) then (some (1 : Int32)) else (some (0 : Int32))
set_option maxHeartbeats 4000000 in
set_option maxRecDepth 100000 in
theorem c_X7_isNoisy (G : G0) (hL : In G) (k : Nat) (h_k : k < 24) (x1 : Int32) (σ : Mem) (sc : Grp) (e_sc : σ 7 k = sc) (r : Int32) (h : fX7_isNoisy sc x1 = some r) :
    CI G yX7_isNoisy cX7_isNoisy 2 .boolean 1 [.ref (adr G (7, k, 0)), .int x1] σ r σ := by
  refine CI.of (by decide +kernel) (Nat.le_of_ble_eq_true rfl) (fun Y hY F hR => ?_)
  unfold fX7_isNoisy at h
  have F : Fx Y G cX7_isNoisy RX7 1 := F
  refine u_lv (lv' := [(0, .ref (adr G (7, k, 0))), (1, .int x1)]) [0, 1] rfl ?_
  refine u_aload_n (pc := 0) F dX7_isNoisy_0 0 rfl rfl ?_
  refine u_get (v := sc 0 3) (pc := 1) F dX7_isNoisy_1 (hL 7 k 0 h_k rfl) ck_7 fl_7_50 rfl (by decide) (congrFun (congrFun (show σ 7 k = sc from e_sc) 0) 3) ?_
  refine u_iload_n (pc := 4) F dX7_isNoisy_4 1 rfl rfl ?_
  refine u_ishr (pc := 5) F dX7_isNoisy_5 ?_
  refine u_iconst (v := 1) (pc := 6) F dX7_isNoisy_6 (by decide) ?_
  refine u_iand (pc := 7) F dX7_isNoisy_7 ?_
  refine u_iconst (v := 1) (pc := 8) F dX7_isNoisy_8 (by decide) ?_
  refine u_icmp_ne (pc := 9) F 16 dX7_isNoisy_9 (by decide) (fun c1 => ?_) (fun c1 => ?_)
  · rw [if_neg c1] at h
    refine u_iconst (v := 0) (pc := 16) F dX7_isNoisy_16 (by decide) ?_
    have h1 := Option.some.inj h
    subst h1
    exact hR _ _ rfl dX7_isNoisy_17
  · rw [if_pos c1] at h
    refine u_iconst (v := 1) (pc := 12) F dX7_isNoisy_12 (by decide) ?_
    refine u_goto (pc := 13) F 17 dX7_isNoisy_13 (by decide) ?_
    have h1 := Option.some.inj h
    subst h1
    exact hR _ _ rfl dX7_isNoisy_17
/- RollingCodes$Scene.isHeardAt -/
def fX7_isHeardAt (sc : Grp) (pl : Grp) (x1 : Int32) (x2 : Int32) (x3 : Int32) : Option (Int32) :=
    d_bd (fX7_isNoisy sc x1) fun q1 => if q1 = 0 then (d_ab x1 4 <| d_lt (if (0 : Int32) ≤ ((pl 7 x1.toNatClampNeg) - x2) then ((pl 7 x1.toNatClampNeg) - x2) else 0 - ((pl 7 x1.toNatClampNeg) - x2)) fun v4 => if v4 ≤ x3 then (some (1 : Int32)) else (some (0 : Int32))) else (some (0 : Int32))
set_option maxHeartbeats 4000000 in
set_option maxRecDepth 100000 in
theorem c_X7_isHeardAt (G : G0) (hL : In G) (k : Nat) (h_k : k < 24) (x1 : Int32) (x2 : Int32) (x3 : Int32) (σ : Mem) (sc : Grp) (pl : Grp) (e_sc : σ 7 k = sc) (e_pl : σ 4 0 = pl) (r : Int32) (h : fX7_isHeardAt sc pl x1 x2 x3 = some r) :
    CI G yX7_isHeardAt cX7_isHeardAt 4 .boolean 2 [.ref (adr G (7, k, 0)), .int x1, .int x2, .int x3] σ r σ := by
  refine CI.of (by decide +kernel) (Nat.le_of_ble_eq_true rfl) (fun Y hY F hR => ?_)
  unfold fX7_isHeardAt at h
  have F : Fx Y G cX7_isHeardAt RX7 2 := F
  refine u_lv (lv' := [(0, .ref (adr G (7, k, 0))), (1, .int x1), (2, .int x2), (3, .int x3)]) [0, 1, 2, 3] rfl ?_
  refine u_aload_n (pc := 0) F dX7_isHeardAt_0 0 rfl rfl ?_
  refine u_iload_n (pc := 1) F dX7_isHeardAt_1 1 rfl rfl ?_
  obtain ⟨q1, hq1, h⟩ := d_bd_some h
  refine u_calli (pc := 2) F (As := [.int x1]) (c_X7_isNoisy G hL k h_k x1 σ sc ((show σ 7 k = sc from e_sc)) q1 hq1) yv_X7_isNoisy ml_7_126 (hL 7 k 0 h_k rfl) rfl (by decide) rfl rfl (Nat.le_of_ble_eq_true rfl) dX7_isHeardAt_2 ?_
  refine u_if_ne (pc := 5) F 30 dX7_isHeardAt_5 (by decide) (fun c2 => ?_) (fun c2 => ?_)
  · rw [if_neg c2] at h
    refine u_iconst (v := 0) (pc := 30) F dX7_isHeardAt_30 (by decide) ?_
    have h1 := Option.some.inj h
    subst h1
    exact hR _ _ rfl dX7_isHeardAt_31
  · rw [if_pos c2] at h
    refine u_aload_n (pc := 8) F dX7_isHeardAt_8 0 rfl rfl ?_
    refine u_getO (pc := 9) F dX7_isHeardAt_9 (hL 7 k 0 h_k rfl) ck_7 fl_7_36 rfl (by decide) rfl ?_
    refine u_getA (pc := 12) F dX7_isHeardAt_12 (hL 4 0 0 (by decide) rfl) ck_4 fl_7_130 rfl (by decide) (by decide) ?_
    refine u_iload_n (pc := 15) F dX7_isHeardAt_15 1 rfl rfl ?_
    obtain ⟨b3, h⟩ := d_ab_some h
    refine u_aldI (v := pl 7 x1.toNatClampNeg) (pc := 16) F dX7_isHeardAt_16 (hL 4 0 7 (by decide) rfl) rfl b3 (congrFun (congrFun (show σ 4 0 = pl from e_pl) 7) _) ?_
    refine u_iload_n (pc := 17) F dX7_isHeardAt_17 2 rfl rfl ?_
    refine u_isub (pc := 18) F dX7_isHeardAt_18 ?_
    refine u_abs (pc := 19) F mk_7_133 mt_s_abs mt_i mt_c_abs (by decide) (Nat.le_of_ble_eq_true rfl) dX7_isHeardAt_19 ?_
    obtain ⟨v4, hv4, h⟩ := d_lt_some h
    refine u_topi hv4 ?_
    refine u_iload_n (pc := 22) F dX7_isHeardAt_22 3 rfl rfl ?_
    refine u_icmp_gt (pc := 23) F 30 dX7_isHeardAt_23 (by decide) (fun c5 => ?_) (fun c5 => ?_)
    · rw [if_neg c5] at h
      refine u_iconst (v := 0) (pc := 30) F dX7_isHeardAt_30 (by decide) ?_
      have h1 := Option.some.inj h
      subst h1
      exact hR _ _ rfl dX7_isHeardAt_31
    · rw [if_pos c5] at h
      refine u_iconst (v := 1) (pc := 26) F dX7_isHeardAt_26 (by decide) ?_
      refine u_goto (pc := 27) F 31 dX7_isHeardAt_27 (by decide) ?_
      have h1 := Option.some.inj h
      subst h1
      exact hR _ _ rfl dX7_isHeardAt_31
/- RollingCodes$Scene.open -/
def fX7_open (sc : Grp) (x1 : Int32) (x2 : Int32) (x3 : Int32) : Option (Grp) :=
    d_ab ((x1 * (5 : Int32)) + x2) 20 <| d_lt (wr sc 13 ((x1 * (5 : Int32)) + x2).toNatClampNeg x3) fun g2 => d_ab x1 4 <| d_lt (if (9999 : Int32) < ((g2 10 x1.toNatClampNeg) + (1 : Int32)) then (9999 : Int32) else ((g2 10 x1.toNatClampNeg) + (1 : Int32))) fun v4 => d_ab x1 4 <| d_lt (wr g2 10 x1.toNatClampNeg v4) fun g6 => d_bd (fX7_waitFor g6 x1 (-1 : Int32) (-1 : Int32)) fun q7 => some q7
set_option maxHeartbeats 4000000 in
set_option maxRecDepth 100000 in
theorem c_X7_open (G : G0) (hL : In G) (k : Nat) (h_k : k < 24) (x1 : Int32) (x2 : Int32) (x3 : Int32) (σ : Mem) (sc : Grp) (e_sc : σ 7 k = sc) (sc' : Grp) (h : fX7_open sc x1 x2 x3 = some sc') :
    CV G yX7_open cX7_open 4 2 [.ref (adr G (7, k, 0)), .int x1, .int x2, .int x3] σ (upM σ 7 k (sc')) := by
  refine CV.of (by decide +kernel) (Nat.le_of_ble_eq_true rfl) (fun Y hY F hR => ?_)
  unfold fX7_open at h
  have F : Fx Y G cX7_open RX7 2 := F
  refine u_mem (σ2 := (upM σ 7 k sc)) (by rw [← e_sc]; simp only [upM_self]) ?_
  refine u_lv (lv' := [(0, .ref (adr G (7, k, 0))), (1, .int x1), (2, .int x2), (3, .int x3)]) [0, 1, 2, 3] rfl ?_
  refine u_aload_n (pc := 0) F dX7_open_0 0 rfl rfl ?_
  refine u_getA (pc := 1) F dX7_open_1 (hL 7 k 0 h_k rfl) ck_7 fl_7_33 rfl (by decide) (by decide) ?_
  refine u_iload_n (pc := 4) F dX7_open_4 1 rfl rfl ?_
  refine u_iconst (v := 5) (pc := 5) F dX7_open_5 (by decide) ?_
  refine u_imul (pc := 6) F dX7_open_6 ?_
  refine u_iload_n (pc := 7) F dX7_open_7 2 rfl rfl ?_
  refine u_iadd (pc := 8) F dX7_open_8 ?_
  refine u_iload_n (pc := 9) F dX7_open_9 3 rfl rfl ?_
  obtain ⟨b1, h⟩ := d_ab_some h
  refine u_astI1 (pc := 10) F dX7_open_10 (hL 7 k 13 h_k rfl) rfl b1 ?_
  obtain ⟨g2, hg2, h⟩ := d_lt_some h
  refine u_mem (σ2 := (upM σ 7 k g2)) (by rw [hg2]) ?_
  refine u_aload_n (pc := 11) F dX7_open_11 0 rfl rfl ?_
  refine u_getA (pc := 12) F dX7_open_12 (hL 7 k 0 h_k rfl) ck_7 fl_7_24 rfl (by decide) (by decide) ?_
  refine u_iload_n (pc := 15) F dX7_open_15 1 rfl rfl ?_
  refine u_aload_n (pc := 16) F dX7_open_16 0 rfl rfl ?_
  refine u_getA (pc := 17) F dX7_open_17 (hL 7 k 0 h_k rfl) ck_7 fl_7_24 rfl (by decide) (by decide) ?_
  refine u_iload_n (pc := 20) F dX7_open_20 1 rfl rfl ?_
  obtain ⟨b3, h⟩ := d_ab_some h
  refine u_aldI1 (pc := 21) F dX7_open_21 (hL 7 k 10 h_k rfl) rfl b3 ?_
  refine u_iconst (v := 1) (pc := 22) F dX7_open_22 (by decide) ?_
  refine u_iadd (pc := 23) F dX7_open_23 ?_
  refine u_sipush (v := 9999) (pc := 24) F dX7_open_24 (by decide) ?_
  refine u_min (pc := 27) F mk_7_141 mt_s_min mt_i mt_c_min (by decide) (Nat.le_of_ble_eq_true rfl) dX7_open_27 ?_
  obtain ⟨v4, hv4, h⟩ := d_lt_some h
  refine u_topi hv4 ?_
  obtain ⟨b5, h⟩ := d_ab_some h
  refine u_astI1 (pc := 30) F dX7_open_30 (hL 7 k 10 h_k rfl) rfl b5 ?_
  obtain ⟨g6, hg6, h⟩ := d_lt_some h
  refine u_mem (σ2 := (upM σ 7 k g6)) (by rw [hg6]) ?_
  refine u_aload_n (pc := 31) F dX7_open_31 0 rfl rfl ?_
  refine u_iload_n (pc := 32) F dX7_open_32 1 rfl rfl ?_
  refine u_iconst (v := -1) (pc := 33) F dX7_open_33 (by decide) ?_
  refine u_iconst (v := -1) (pc := 34) F dX7_open_34 (by decide) ?_
  obtain ⟨q7, hq7, h⟩ := d_bd_some h
  refine u_callv (pc := 35) F (As := [.int x1, .int (-1 : Int32), .int (-1 : Int32)]) (c_X7_waitFor G hL k h_k x1 (-1 : Int32) (-1 : Int32) (upM σ 7 k g6) g6 (upM_same _ _ _ _) q7 hq7) yv_X7_waitFor ml_7_62 (hL 7 k 0 h_k rfl) rfl (by decide) rfl rfl (Nat.le_of_ble_eq_true rfl) dX7_open_35 ?_
  refine u_mem (σ2 := (upM σ 7 k q7)) (by first | (rw [upM_upM]; done) | (rw [upM_mid _ _ _ _ (by decide)]; done) | (rw [upM_mid _ _ _ _ (by decide), upM_upM]; done) | (rw [upM_mid _ _ _ _ (by decide), upM_mid _ _ _ _ (by decide)]; done)) ?_
  have h1 := Option.some.inj h
  subst h1
  exact hR _ _ dX7_open_38
/- RollingCodes$Scene.lastOf -/
def fX7_lastOf (sc : Grp) (x1 : Int32) (x2 : Int32) : Option (Int32) :=
    d_ab ((x1 * (5 : Int32)) + x2) 20 <| some (sc 13 ((x1 * (5 : Int32)) + x2).toNatClampNeg)
set_option maxHeartbeats 4000000 in
set_option maxRecDepth 100000 in
theorem c_X7_lastOf (G : G0) (hL : In G) (k : Nat) (h_k : k < 24) (x1 : Int32) (x2 : Int32) (σ : Mem) (sc : Grp) (e_sc : σ 7 k = sc) (r : Int32) (h : fX7_lastOf sc x1 x2 = some r) :
    CI G yX7_lastOf cX7_lastOf 3 .int 1 [.ref (adr G (7, k, 0)), .int x1, .int x2] σ r σ := by
  refine CI.of (by decide +kernel) (Nat.le_of_ble_eq_true rfl) (fun Y hY F hR => ?_)
  unfold fX7_lastOf at h
  have F : Fx Y G cX7_lastOf RX7 1 := F
  refine u_lv (lv' := [(0, .ref (adr G (7, k, 0))), (1, .int x1), (2, .int x2)]) [0, 1, 2] rfl ?_
  refine u_aload_n (pc := 0) F dX7_lastOf_0 0 rfl rfl ?_
  refine u_getA (pc := 1) F dX7_lastOf_1 (hL 7 k 0 h_k rfl) ck_7 fl_7_33 rfl (by decide) (by decide) ?_
  refine u_iload_n (pc := 4) F dX7_lastOf_4 1 rfl rfl ?_
  refine u_iconst (v := 5) (pc := 5) F dX7_lastOf_5 (by decide) ?_
  refine u_imul (pc := 6) F dX7_lastOf_6 ?_
  refine u_iload_n (pc := 7) F dX7_lastOf_7 2 rfl rfl ?_
  refine u_iadd (pc := 8) F dX7_lastOf_8 ?_
  obtain ⟨b1, h⟩ := d_ab_some h
  refine u_aldI (v := sc 13 ((x1 * (5 : Int32)) + x2).toNatClampNeg) (pc := 9) F dX7_lastOf_9 (hL 7 k 13 h_k rfl) rfl b1 (congrFun (congrFun (show σ 7 k = sc from e_sc) 13) _) ?_
  have h1 := Option.some.inj h
  subst h1
  exact hR _ _ rfl dX7_lastOf_10
/- RollingCodes$Scene.firstAhead -/
def fX7_firstAhead_39 (sc : Grp) (pl : Grp) : Nat → Int32 → Int32 → Int32 → Int32 → Int32 → Option (Int32)
  | 0, _, _, _, _, _ => none
  | fu + 1, x3, x4, x5, x6, x7 =>
    if x7 ≤ x6 then (d_bd (fX10_codeOf x4 (jrem (x5 + x7) (10000 : Int32))) fun q7 => if q7 = x3 then (some x7) else (d_lt (x7 + (1 : Int32)) fun v9 => fX7_firstAhead_39 sc pl fu x3 x4 x5 x6 v9)) else (some (-1 : Int32))
def fX7_firstAhead (sc : Grp) (pl : Grp) (x1 : Int32) (x2 : Int32) (x3 : Int32) : Option (Int32) :=
    d_ab x2 5 <| d_lt (pl 12 x2.toNatClampNeg) fun v2 => d_bd (fX7_lastOf sc x1 x2) fun q3 => d_bd (fX4_mostAhead pl x1) fun q4 => d_bd (fX4_leastAhead pl x1) fun q5 => fX7_firstAhead_39 sc pl 1000 x3 v2 q3 q4 q5
set_option maxHeartbeats 4000000 in
set_option maxRecDepth 100000 in
theorem wX7_firstAhead_39 (Y : Dy) (G : G0) (hL : In G) (k : Nat) (h_k : k < 24) (σ : Mem) (sc : Grp) (pl : Grp) (e_sc : σ 7 k = sc) (e_pl : σ 4 0 = pl) (F : Fx Y G cX7_firstAhead RX7 2) (hY : Y.2.2.2.2.2.2.2.2.2.2.2.1 = 8) (r : Int32) (hR : ∀ (pc : Nat) (lv : List (Nat × Value)), narrow .int (.int r) = .int r → decode cX7_firstAhead pc = .ok (.ireturn, 1) → U Y G σ pc lv [.int r]) :
    ∀ (fu : Nat) (x3 : Int32) (x4 : Int32) (x5 : Int32) (x6 : Int32) (x7 : Int32), fX7_firstAhead_39 sc pl fu x3 x4 x5 x6 x7 = some r → U Y G σ 39 [(3, .int x3), (4, .int x4), (5, .int x5), (6, .int x6), (7, .int x7)] [] := by
  intro fu
  induction fu with
  | zero =>
    intro x3 x4 x5 x6 x7 h
    rw [fX7_firstAhead_39] at h
    cases h
  | succ fu ih =>
    intro x3 x4 x5 x6 x7 h
    rw [fX7_firstAhead_39] at h
    refine u_iload (pc := 39) F dX7_firstAhead_39 4 rfl ?_
    refine u_iload (pc := 41) F dX7_firstAhead_41 3 rfl ?_
    refine u_icmp_gt (pc := 43) F 73 dX7_firstAhead_43 (by decide) (fun c6 => ?_) (fun c6 => ?_)
    · rw [if_neg c6] at h
      refine u_iconst (v := -1) (pc := 73) F dX7_firstAhead_73 (by decide) ?_
      have h1 := Option.some.inj h
      subst h1
      exact hR _ _ rfl dX7_firstAhead_74
    · rw [if_pos c6] at h
      refine u_iload (pc := 46) F dX7_firstAhead_46 1 rfl ?_
      refine u_iload (pc := 48) F dX7_firstAhead_48 2 rfl ?_
      refine u_iload (pc := 50) F dX7_firstAhead_50 4 rfl ?_
      refine u_iadd (pc := 52) F dX7_firstAhead_52 ?_
      refine u_sipush (v := 10000) (pc := 53) F dX7_firstAhead_53 (by decide) ?_
      refine u_irem (pc := 56) F dX7_firstAhead_56 (by decide) ?_
      obtain ⟨q7, hq7, h⟩ := d_bd_some h
      refine u_callSi (pc := 57) F (As := [.int x4, .int (jrem (x5 + x7) (10000 : Int32))]) (c_X10_codeOf G hL x4 (jrem (x5 + x7) (10000 : Int32)) σ q7 hq7) ys_X10_codeOf ml_7_82 (by decide) rfl rfl (Nat.le_of_ble_eq_true rfl) dX7_firstAhead_57 ?_
      refine u_iload_n (pc := 60) F dX7_firstAhead_60 0 rfl rfl ?_
      refine u_icmp_ne (pc := 61) F 67 dX7_firstAhead_61 (by decide) (fun c8 => ?_) (fun c8 => ?_)
      · rw [if_neg c8] at h
        obtain ⟨v9, hv9, h⟩ := d_lt_some h
        refine u_iinc (lv' := [(7, .int v9), (3, .int x3), (4, .int x4), (5, .int x5), (6, .int x6)]) (pc := 67) F dX7_firstAhead_67 4 rfl hv9.symm hY (by decide) rfl ?_
        refine u_goto (pc := 70) F 39 dX7_firstAhead_70 (by decide) ?_
        refine u_lv (lv' := [(3, .int x3), (4, .int x4), (5, .int x5), (6, .int x6), (7, .int v9)]) [1, 2, 3, 4, 0] rfl ?_
        exact ih x3 x4 x5 x6 v9 h
      · rw [if_pos c8] at h
        refine u_iload (pc := 64) F dX7_firstAhead_64 4 rfl ?_
        have h1 := Option.some.inj h
        subst h1
        exact hR _ _ rfl dX7_firstAhead_66
set_option maxHeartbeats 4000000 in
set_option maxRecDepth 100000 in
theorem c_X7_firstAhead (G : G0) (hL : In G) (k : Nat) (h_k : k < 24) (x1 : Int32) (x2 : Int32) (x3 : Int32) (σ : Mem) (sc : Grp) (pl : Grp) (e_sc : σ 7 k = sc) (e_pl : σ 4 0 = pl) (r : Int32) (h : fX7_firstAhead sc pl x1 x2 x3 = some r) :
    CI G yX7_firstAhead cX7_firstAhead 8 .int 2 [.ref (adr G (7, k, 0)), .int x1, .int x2, .int x3] σ r σ := by
  refine CI.of (by decide +kernel) (Nat.le_of_ble_eq_true rfl) (fun Y hY F hR => ?_)
  unfold fX7_firstAhead at h
  have F : Fx Y G cX7_firstAhead RX7 2 := F
  refine u_lv (lv' := [(0, .ref (adr G (7, k, 0))), (1, .int x1), (2, .int x2), (3, .int x3)]) [0, 1, 2, 3] rfl ?_
  refine u_aload_n (pc := 0) F dX7_firstAhead_0 0 rfl rfl ?_
  refine u_getO (pc := 1) F dX7_firstAhead_1 (hL 7 k 0 h_k rfl) ck_7 fl_7_36 rfl (by decide) rfl ?_
  refine u_getA (pc := 4) F dX7_firstAhead_4 (hL 4 0 0 (by decide) rfl) ck_4 fl_7_79 rfl (by decide) (by decide) ?_
  refine u_iload_n (pc := 7) F dX7_firstAhead_7 2 rfl rfl ?_
  obtain ⟨b1, h⟩ := d_ab_some h
  refine u_aldI (v := pl 12 x2.toNatClampNeg) (pc := 8) F dX7_firstAhead_8 (hL 4 0 12 (by decide) rfl) rfl b1 (congrFun (congrFun (show σ 4 0 = pl from e_pl) 12) _) ?_
  obtain ⟨v2, hv2, h⟩ := d_lt_some h
  refine u_topi hv2 ?_
  refine u_istore (lv' := [(4, .int v2), (0, .ref (adr G (7, k, 0))), (1, .int x1), (2, .int x2), (3, .int x3)]) (pc := 9) F dX7_firstAhead_9 hY (by decide) rfl ?_
  refine u_aload_n (pc := 11) F dX7_firstAhead_11 1 rfl rfl ?_
  refine u_iload_n (pc := 12) F dX7_firstAhead_12 2 rfl rfl ?_
  refine u_iload_n (pc := 13) F dX7_firstAhead_13 3 rfl rfl ?_
  obtain ⟨q3, hq3, h⟩ := d_bd_some h
  refine u_calli (pc := 14) F (As := [.int x1, .int x2]) (c_X7_lastOf G hL k h_k x1 x2 σ sc ((show σ 7 k = sc from e_sc)) q3 hq3) yv_X7_lastOf ml_7_156 (hL 7 k 0 h_k rfl) rfl (by decide) rfl rfl (Nat.le_of_ble_eq_true rfl) dX7_firstAhead_14 ?_
  refine u_istore (lv' := [(5, .int q3), (4, .int v2), (0, .ref (adr G (7, k, 0))), (1, .int x1), (2, .int x2), (3, .int x3)]) (pc := 17) F dX7_firstAhead_17 hY (by decide) rfl ?_
  refine u_aload_n (pc := 19) F dX7_firstAhead_19 2 rfl rfl ?_
  refine u_getO (pc := 20) F dX7_firstAhead_20 (hL 7 k 0 h_k rfl) ck_7 fl_7_36 rfl (by decide) rfl ?_
  refine u_iload_n (pc := 23) F dX7_firstAhead_23 3 rfl rfl ?_
  obtain ⟨q4, hq4, h⟩ := d_bd_some h
  refine u_calli (pc := 24) F (As := [.int x1]) (c_X4_mostAhead G hL 0 (by decide) x1 σ pl ((show σ 4 0 = pl from e_pl)) q4 hq4) yv_X4_mostAhead ml_7_162 (hL 4 0 0 (by decide) rfl) rfl (by decide) rfl rfl (Nat.le_of_ble_eq_true rfl) dX7_firstAhead_24 ?_
  refine u_istore (lv' := [(6, .int q4), (5, .int q3), (4, .int v2), (0, .ref (adr G (7, k, 0))), (1, .int x1), (2, .int x2), (3, .int x3)]) (pc := 27) F dX7_firstAhead_27 hY (by decide) rfl ?_
  refine u_aload_n (pc := 29) F dX7_firstAhead_29 3 rfl rfl ?_
  refine u_getO (pc := 30) F dX7_firstAhead_30 (hL 7 k 0 h_k rfl) ck_7 fl_7_36 rfl (by decide) rfl ?_
  refine u_iload_n (pc := 33) F dX7_firstAhead_33 4 rfl rfl ?_
  obtain ⟨q5, hq5, h⟩ := d_bd_some h
  refine u_calli (pc := 34) F (As := [.int x1]) (c_X4_leastAhead G hL 0 (by decide) x1 σ pl ((show σ 4 0 = pl from e_pl)) q5 hq5) yv_X4_leastAhead ml_7_165 (hL 4 0 0 (by decide) rfl) rfl (by decide) rfl rfl (Nat.le_of_ble_eq_true rfl) dX7_firstAhead_34 ?_
  refine u_istore (lv' := [(7, .int q5), (6, .int q4), (5, .int q3), (4, .int v2), (0, .ref (adr G (7, k, 0))), (1, .int x1), (2, .int x2), (3, .int x3)]) (pc := 37) F dX7_firstAhead_37 hY (by decide) rfl ?_
  refine u_lv (lv' := [(3, .int x3), (4, .int v2), (5, .int q3), (6, .int q4), (7, .int q5)]) [7, 3, 2, 1, 0] rfl ?_
  exact wX7_firstAhead_39 Y G hL k h_k σ sc pl e_sc e_pl F hY r hR 1000 x3 v2 q3 q4 q5 h
/- RollingCodes$Scene.hears -/
def fX7_hears_140 (pl : Grp) (sc : Grp) (x1 : Int32) (x4 : Int32) (x6 : Int32) : Option (Int32 × Grp) :=
    d_bd (fX7_open sc x1 x4 x6) fun q12 => some ((1 : Int32), q12)
def fX7_hears_57 (pl : Grp) : Nat → Grp → Int32 → Int32 → Int32 → Option (Int32 × Grp)
  | 0, _, _, _, _ => none
  | fu + 1, sc, x1, x2, x4 =>
    if x4 < (pl 0 4) then (d_bd (fX7_firstAhead sc pl x1 x4 x2) fun q6 => if q6 = (-1 : Int32) then (d_lt (x4 + (1 : Int32)) fun v15 => fX7_hears_57 pl fu sc x1 x2 v15) else (d_bd (fX7_lastOf sc x1 x4) fun q8 => d_lt (jrem (q8 + q6) (10000 : Int32)) fun v9 => d_ab x1 4 <| if (pl 6 x1.toNatClampNeg) = (3 : Int32) then (if q6 ≤ (4 : Int32) then (fX7_hears_140 pl sc x1 x4 v9) else (d_bd (fX7_waitFor sc x1 x4 (jrem (v9 + (1 : Int32)) (10000 : Int32))) fun q14 => some ((0 : Int32), q14))) else (fX7_hears_140 pl sc x1 x4 v9))) else (some ((0 : Int32), sc))
def fX7_hears_54 (pl : Grp) (sc : Grp) (x1 : Int32) (x2 : Int32) : Option (Int32 × Grp) :=
    fX7_hears_57 pl 1000 sc x1 x2 (0 : Int32)
def fX7_hears (sc : Grp) (pl : Grp) (x1 : Int32) (x2 : Int32) : Option (Int32 × Grp) :=
    d_ab x1 4 <| d_lt (sc 11 x1.toNatClampNeg) fun v2 => d_bd (fX4_isFob pl v2) fun q3 => if q3 = 0 then (fX7_hears_54 pl sc x1 x2) else (d_ab v2 5 <| d_ab x1 4 <| d_bd (fX10_codeOf (pl 12 v2.toNatClampNeg) (sc 12 x1.toNatClampNeg)) fun q18 => if q18 = x2 then (d_ab x1 4 <| d_bd (fX7_open sc x1 v2 (sc 12 x1.toNatClampNeg)) fun q21 => some ((1 : Int32), q21)) else (fX7_hears_54 pl sc x1 x2))
set_option maxHeartbeats 4000000 in
set_option maxRecDepth 100000 in
theorem wX7_hears_140 (Y : Dy) (G : G0) (hL : In G) (k : Nat) (h_k : k < 24) (σ : Mem) (pl : Grp) (e_pl : σ 4 0 = pl) (F : Fx Y G cX7_hears RX7 3) (hY : Y.2.2.2.2.2.2.2.2.2.2.2.1 = 7) (r : Int32) (sc' : Grp) (hR : ∀ (pc : Nat) (lv : List (Nat × Value)), narrow .boolean (.int r) = .int r → decode cX7_hears pc = .ok (.ireturn, 1) → U Y G (upM σ 7 k (sc')) pc lv [.int r]) :
    ∀ (sc : Grp) (x1 : Int32) (x4 : Int32) (x6 : Int32), fX7_hears_140 pl sc x1 x4 x6 = some (r, sc') → U Y G (upM σ 7 k sc) 140 [(0, .ref (adr G (7, k, 0))), (1, .int x1), (4, .int x4), (6, .int x6)] [] := by
  intro sc x1 x4 x6 h
  unfold fX7_hears_140 at h
  refine u_aload_n (pc := 140) F dX7_hears_140 0 rfl rfl ?_
  refine u_iload_n (pc := 141) F dX7_hears_141 1 rfl rfl ?_
  refine u_iload (pc := 142) F dX7_hears_142 2 rfl ?_
  refine u_iload (pc := 144) F dX7_hears_144 3 rfl ?_
  obtain ⟨q12, hq12, h⟩ := d_bd_some h
  refine u_callv (pc := 146) F (As := [.int x1, .int x4, .int x6]) (c_X7_open G hL k h_k x1 x4 x6 (upM σ 7 k sc) sc (upM_same _ _ _ _) q12 hq12) yv_X7_open ml_7_147 (hL 7 k 0 h_k rfl) rfl (by decide) rfl rfl (Nat.le_of_ble_eq_true rfl) dX7_hears_146 ?_
  refine u_mem (σ2 := (upM σ 7 k q12)) (by first | (rw [upM_upM]; done) | (rw [upM_mid _ _ _ _ (by decide)]; done) | (rw [upM_mid _ _ _ _ (by decide), upM_upM]; done) | (rw [upM_mid _ _ _ _ (by decide), upM_mid _ _ _ _ (by decide)]; done)) ?_
  refine u_iconst (v := 1) (pc := 149) F dX7_hears_149 (by decide) ?_
  have h1 := Option.some.inj h
  obtain ⟨hj0, hr0⟩ := Prod.mk.inj h1
  subst hj0
  subst hr0
  exact hR _ _ rfl dX7_hears_150
set_option maxHeartbeats 4000000 in
set_option maxRecDepth 100000 in
theorem wX7_hears_57 (Y : Dy) (G : G0) (hL : In G) (k : Nat) (h_k : k < 24) (σ : Mem) (pl : Grp) (e_pl : σ 4 0 = pl) (F : Fx Y G cX7_hears RX7 3) (hY : Y.2.2.2.2.2.2.2.2.2.2.2.1 = 7) (r : Int32) (sc' : Grp) (hR : ∀ (pc : Nat) (lv : List (Nat × Value)), narrow .boolean (.int r) = .int r → decode cX7_hears pc = .ok (.ireturn, 1) → U Y G (upM σ 7 k (sc')) pc lv [.int r]) :
    ∀ (fu : Nat) (sc : Grp) (x1 : Int32) (x2 : Int32) (x4 : Int32), fX7_hears_57 pl fu sc x1 x2 x4 = some (r, sc') → U Y G (upM σ 7 k sc) 57 [(0, .ref (adr G (7, k, 0))), (1, .int x1), (2, .int x2), (4, .int x4)] [] := by
  intro fu
  induction fu with
  | zero =>
    intro sc x1 x2 x4 h
    rw [fX7_hears_57] at h
    cases h
  | succ fu ih =>
    intro sc x1 x2 x4 h
    rw [fX7_hears_57] at h
    refine u_iload (pc := 57) F dX7_hears_57 3 rfl ?_
    refine u_aload_n (pc := 59) F dX7_hears_59 0 rfl rfl ?_
    refine u_getO (pc := 60) F dX7_hears_60 (hL 7 k 0 h_k rfl) ck_7 fl_7_36 rfl (by decide) rfl ?_
    refine u_get (v := pl 0 4) (pc := 63) F dX7_hears_63 (hL 4 0 0 (by decide) rfl) ck_4 fl_7_150 rfl (by decide) (congrFun (congrFun (show (upM σ 7 k sc) 4 0 = pl from e_pl) 0) 4) ?_
    refine u_icmp_ge (pc := 66) F 157 dX7_hears_66 (by decide) (fun c5 => ?_) (fun c5 => ?_)
    · rw [if_neg c5] at h
      refine u_iconst (v := 0) (pc := 157) F dX7_hears_157 (by decide) ?_
      have h1 := Option.some.inj h
      obtain ⟨hj0, hr0⟩ := Prod.mk.inj h1
      subst hj0
      subst hr0
      exact hR _ _ rfl dX7_hears_158
    · rw [if_pos c5] at h
      refine u_aload_n (pc := 69) F dX7_hears_69 0 rfl rfl ?_
      refine u_iload_n (pc := 70) F dX7_hears_70 1 rfl rfl ?_
      refine u_iload (pc := 71) F dX7_hears_71 3 rfl ?_
      refine u_iload_n (pc := 73) F dX7_hears_73 2 rfl rfl ?_
      obtain ⟨q6, hq6, h⟩ := d_bd_some h
      refine u_calli (pc := 74) F (As := [.int x1, .int x4, .int x2]) (c_X7_firstAhead G hL k h_k x1 x4 x2 (upM σ 7 k sc) sc pl (upM_same _ _ _ _) ((show (upM σ 7 k sc) 4 0 = pl from e_pl)) q6 hq6) yv_X7_firstAhead ml_7_153 (hL 7 k 0 h_k rfl) rfl (by decide) rfl rfl (Nat.le_of_ble_eq_true rfl) dX7_hears_74 ?_
      refine u_istore (lv' := [(5, .int q6), (0, .ref (adr G (7, k, 0))), (1, .int x1), (2, .int x2), (4, .int x4)]) (pc := 77) F dX7_hears_77 hY (by decide) rfl ?_
      refine u_iload (pc := 79) F dX7_hears_79 0 rfl ?_
      refine u_iconst (v := -1) (pc := 81) F dX7_hears_81 (by decide) ?_
      refine u_icmp_ne (pc := 82) F 88 dX7_hears_82 (by decide) (fun c7 => ?_) (fun c7 => ?_)
      · rw [if_neg c7] at h
        refine u_aload_n (pc := 88) F dX7_hears_88 1 rfl rfl ?_
        refine u_iload_n (pc := 89) F dX7_hears_89 2 rfl rfl ?_
        refine u_iload (pc := 90) F dX7_hears_90 4 rfl ?_
        obtain ⟨q8, hq8, h⟩ := d_bd_some h
        refine u_calli (pc := 92) F (As := [.int x1, .int x4]) (c_X7_lastOf G hL k h_k x1 x4 (upM σ 7 k sc) sc (upM_same _ _ _ _) q8 hq8) yv_X7_lastOf ml_7_156 (hL 7 k 0 h_k rfl) rfl (by decide) rfl rfl (Nat.le_of_ble_eq_true rfl) dX7_hears_92 ?_
        refine u_iload (pc := 95) F dX7_hears_95 0 rfl ?_
        refine u_iadd (pc := 97) F dX7_hears_97 ?_
        refine u_sipush (v := 10000) (pc := 98) F dX7_hears_98 (by decide) ?_
        refine u_irem (pc := 101) F dX7_hears_101 (by decide) ?_
        obtain ⟨v9, hv9, h⟩ := d_lt_some h
        refine u_topi hv9 ?_
        refine u_istore (lv' := [(6, .int v9), (5, .int q6), (0, .ref (adr G (7, k, 0))), (1, .int x1), (2, .int x2), (4, .int x4)]) (pc := 102) F dX7_hears_102 hY (by decide) rfl ?_
        refine u_aload_n (pc := 104) F dX7_hears_104 2 rfl rfl ?_
        refine u_getO (pc := 105) F dX7_hears_105 (hL 7 k 0 h_k rfl) ck_7 fl_7_36 rfl (by decide) rfl ?_
        refine u_getA (pc := 108) F dX7_hears_108 (hL 4 0 0 (by decide) rfl) ck_4 fl_7_159 rfl (by decide) (by decide) ?_
        refine u_iload_n (pc := 111) F dX7_hears_111 3 rfl rfl ?_
        obtain ⟨b10, h⟩ := d_ab_some h
        refine u_aldI (v := pl 6 x1.toNatClampNeg) (pc := 112) F dX7_hears_112 (hL 4 0 6 (by decide) rfl) rfl b10 (congrFun (congrFun (show (upM σ 7 k sc) 4 0 = pl from e_pl) 6) _) ?_
        refine u_iconst (v := 3) (pc := 113) F dX7_hears_113 (by decide) ?_
        refine u_icmp_ne (pc := 114) F 140 dX7_hears_114 (by decide) (fun c11 => ?_) (fun c11 => ?_)
        · rw [if_neg c11] at h
          refine u_lv (lv' := [(0, .ref (adr G (7, k, 0))), (1, .int x1), (4, .int x4), (6, .int v9)]) [2, 3, 5, 0] rfl ?_
          exact wX7_hears_140 Y G hL k h_k σ pl e_pl F hY r sc' hR sc x1 x4 v9 h
        · rw [if_pos c11] at h
          refine u_iload (pc := 117) F dX7_hears_117 1 rfl ?_
          refine u_iconst (v := 4) (pc := 119) F dX7_hears_119 (by decide) ?_
          refine u_icmp_le (pc := 120) F 140 dX7_hears_120 (by decide) (fun c13 => ?_) (fun c13 => ?_)
          · rw [if_pos c13] at h
            refine u_lv (lv' := [(0, .ref (adr G (7, k, 0))), (1, .int x1), (4, .int x4), (6, .int v9)]) [2, 3, 5, 0] rfl ?_
            exact wX7_hears_140 Y G hL k h_k σ pl e_pl F hY r sc' hR sc x1 x4 v9 h
          · rw [if_neg c13] at h
            refine u_aload_n (pc := 123) F dX7_hears_123 2 rfl rfl ?_
            refine u_iload_n (pc := 124) F dX7_hears_124 3 rfl rfl ?_
            refine u_iload (pc := 125) F dX7_hears_125 5 rfl ?_
            refine u_iload (pc := 127) F dX7_hears_127 0 rfl ?_
            refine u_iconst (v := 1) (pc := 129) F dX7_hears_129 (by decide) ?_
            refine u_iadd (pc := 130) F dX7_hears_130 ?_
            refine u_sipush (v := 10000) (pc := 131) F dX7_hears_131 (by decide) ?_
            refine u_irem (pc := 134) F dX7_hears_134 (by decide) ?_
            obtain ⟨q14, hq14, h⟩ := d_bd_some h
            refine u_callv (pc := 135) F (As := [.int x1, .int x4, .int (jrem (v9 + (1 : Int32)) (10000 : Int32))]) (c_X7_waitFor G hL k h_k x1 x4 (jrem (v9 + (1 : Int32)) (10000 : Int32)) (upM σ 7 k sc) sc (upM_same _ _ _ _) q14 hq14) yv_X7_waitFor ml_7_62 (hL 7 k 0 h_k rfl) rfl (by decide) rfl rfl (Nat.le_of_ble_eq_true rfl) dX7_hears_135 ?_
            refine u_mem (σ2 := (upM σ 7 k q14)) (by first | (rw [upM_upM]; done) | (rw [upM_mid _ _ _ _ (by decide)]; done) | (rw [upM_mid _ _ _ _ (by decide), upM_upM]; done) | (rw [upM_mid _ _ _ _ (by decide), upM_mid _ _ _ _ (by decide)]; done)) ?_
            refine u_iconst (v := 0) (pc := 138) F dX7_hears_138 (by decide) ?_
            have h1 := Option.some.inj h
            obtain ⟨hj0, hr0⟩ := Prod.mk.inj h1
            subst hj0
            subst hr0
            exact hR _ _ rfl dX7_hears_139
      · rw [if_pos c7] at h
        refine u_goto (pc := 85) F 151 dX7_hears_85 (by decide) ?_
        obtain ⟨v15, hv15, h⟩ := d_lt_some h
        refine u_iinc (lv' := [(4, .int v15), (5, .int q6), (0, .ref (adr G (7, k, 0))), (1, .int x1), (2, .int x2)]) (pc := 151) F dX7_hears_151 4 rfl hv15.symm hY (by decide) rfl ?_
        refine u_goto (pc := 154) F 57 dX7_hears_154 (by decide) ?_
        refine u_lv (lv' := [(0, .ref (adr G (7, k, 0))), (1, .int x1), (2, .int x2), (4, .int v15)]) [2, 3, 4, 0] rfl ?_
        exact ih sc x1 x2 v15 h
set_option maxHeartbeats 4000000 in
set_option maxRecDepth 100000 in
theorem wX7_hears_54 (Y : Dy) (G : G0) (hL : In G) (k : Nat) (h_k : k < 24) (σ : Mem) (pl : Grp) (e_pl : σ 4 0 = pl) (F : Fx Y G cX7_hears RX7 3) (hY : Y.2.2.2.2.2.2.2.2.2.2.2.1 = 7) (r : Int32) (sc' : Grp) (hR : ∀ (pc : Nat) (lv : List (Nat × Value)), narrow .boolean (.int r) = .int r → decode cX7_hears pc = .ok (.ireturn, 1) → U Y G (upM σ 7 k (sc')) pc lv [.int r]) :
    ∀ (sc : Grp) (x1 : Int32) (x2 : Int32), fX7_hears_54 pl sc x1 x2 = some (r, sc') → U Y G (upM σ 7 k sc) 54 [(0, .ref (adr G (7, k, 0))), (1, .int x1), (2, .int x2)] [] := by
  intro sc x1 x2 h
  unfold fX7_hears_54 at h
  refine u_iconst (v := 0) (pc := 54) F dX7_hears_54 (by decide) ?_
  refine u_istore (lv' := [(4, .int (0 : Int32)), (0, .ref (adr G (7, k, 0))), (1, .int x1), (2, .int x2)]) (pc := 55) F dX7_hears_55 hY (by decide) rfl ?_
  refine u_lv (lv' := [(0, .ref (adr G (7, k, 0))), (1, .int x1), (2, .int x2), (4, .int (0 : Int32))]) [1, 2, 3, 0] rfl ?_
  exact wX7_hears_57 Y G hL k h_k σ pl e_pl F hY r sc' hR 1000 sc x1 x2 (0 : Int32) h
set_option maxHeartbeats 4000000 in
set_option maxRecDepth 100000 in
theorem c_X7_hears (G : G0) (hL : In G) (k : Nat) (h_k : k < 24) (x1 : Int32) (x2 : Int32) (σ : Mem) (sc : Grp) (pl : Grp) (e_sc : σ 7 k = sc) (e_pl : σ 4 0 = pl) (r : Int32) (sc' : Grp) (h : fX7_hears sc pl x1 x2 = some (r, sc')) :
    CI G yX7_hears cX7_hears 7 .boolean 3 [.ref (adr G (7, k, 0)), .int x1, .int x2] σ r (upM σ 7 k (sc')) := by
  refine CI.of (by decide +kernel) (Nat.le_of_ble_eq_true rfl) (fun Y hY F hR => ?_)
  unfold fX7_hears at h
  have F : Fx Y G cX7_hears RX7 3 := F
  refine u_mem (σ2 := (upM σ 7 k sc)) (by rw [← e_sc]; simp only [upM_self]) ?_
  refine u_lv (lv' := [(0, .ref (adr G (7, k, 0))), (1, .int x1), (2, .int x2)]) [0, 1, 2] rfl ?_
  refine u_aload_n (pc := 0) F dX7_hears_0 0 rfl rfl ?_
  refine u_getA (pc := 1) F dX7_hears_1 (hL 7 k 0 h_k rfl) ck_7 fl_7_27 rfl (by decide) (by decide) ?_
  refine u_iload_n (pc := 4) F dX7_hears_4 1 rfl rfl ?_
  obtain ⟨b1, h⟩ := d_ab_some h
  refine u_aldI1 (pc := 5) F dX7_hears_5 (hL 7 k 11 h_k rfl) rfl b1 ?_
  obtain ⟨v2, hv2, h⟩ := d_lt_some h
  refine u_topi hv2 ?_
  refine u_istore_n (lv' := [(3, .int v2), (0, .ref (adr G (7, k, 0))), (1, .int x1), (2, .int x2)]) (pc := 6) F dX7_hears_6 rfl hY (by decide) rfl ?_
  refine u_aload_n (pc := 7) F dX7_hears_7 1 rfl rfl ?_
  refine u_getO (pc := 8) F dX7_hears_8 (hL 7 k 0 h_k rfl) ck_7 fl_7_36 rfl (by decide) rfl ?_
  refine u_iload_n (pc := 11) F dX7_hears_11 0 rfl rfl ?_
  obtain ⟨q3, hq3, h⟩ := d_bd_some h
  refine u_calli (pc := 12) F (As := [.int v2]) (c_X4_isFob G hL 0 (by decide) v2 (upM σ 7 k sc) pl ((show (upM σ 7 k sc) 4 0 = pl from e_pl)) q3 hq3) yv_X4_isFob ml_7_144 (hL 4 0 0 (by decide) rfl) rfl (by decide) rfl rfl (Nat.le_of_ble_eq_true rfl) dX7_hears_12 ?_
  refine u_if_eq (pc := 15) F 54 dX7_hears_15 (by decide) (fun c4 => ?_) (fun c4 => ?_)
  · rw [if_pos c4] at h
    refine u_lv (lv' := [(0, .ref (adr G (7, k, 0))), (1, .int x1), (2, .int x2)]) [1, 2, 3] rfl ?_
    exact wX7_hears_54 Y G hL k h_k σ pl e_pl F hY r sc' hR sc x1 x2 h
  · rw [if_neg c4] at h
    refine u_aload_n (pc := 18) F dX7_hears_18 1 rfl rfl ?_
    refine u_getO (pc := 19) F dX7_hears_19 (hL 7 k 0 h_k rfl) ck_7 fl_7_36 rfl (by decide) rfl ?_
    refine u_getA (pc := 22) F dX7_hears_22 (hL 4 0 0 (by decide) rfl) ck_4 fl_7_79 rfl (by decide) (by decide) ?_
    refine u_iload_n (pc := 25) F dX7_hears_25 0 rfl rfl ?_
    obtain ⟨b16, h⟩ := d_ab_some h
    refine u_aldI (v := pl 12 v2.toNatClampNeg) (pc := 26) F dX7_hears_26 (hL 4 0 12 (by decide) rfl) rfl b16 (congrFun (congrFun (show (upM σ 7 k sc) 4 0 = pl from e_pl) 12) _) ?_
    refine u_aload_n (pc := 27) F dX7_hears_27 1 rfl rfl ?_
    refine u_getA (pc := 28) F dX7_hears_28 (hL 7 k 0 h_k rfl) ck_7 fl_7_30 rfl (by decide) (by decide) ?_
    refine u_iload_n (pc := 31) F dX7_hears_31 2 rfl rfl ?_
    obtain ⟨b17, h⟩ := d_ab_some h
    refine u_aldI1 (pc := 32) F dX7_hears_32 (hL 7 k 12 h_k rfl) rfl b17 ?_
    obtain ⟨q18, hq18, h⟩ := d_bd_some h
    refine u_callSi (pc := 33) F (As := [.int (pl 12 v2.toNatClampNeg), .int (sc 12 x1.toNatClampNeg)]) (c_X10_codeOf G hL (pl 12 v2.toNatClampNeg) (sc 12 x1.toNatClampNeg) (upM σ 7 k sc) q18 hq18) ys_X10_codeOf ml_7_82 (by decide) rfl rfl (Nat.le_of_ble_eq_true rfl) dX7_hears_33 ?_
    refine u_iload_n (pc := 36) F dX7_hears_36 3 rfl rfl ?_
    refine u_icmp_ne (pc := 37) F 54 dX7_hears_37 (by decide) (fun c19 => ?_) (fun c19 => ?_)
    · rw [if_neg c19] at h
      refine u_lv (lv' := [(0, .ref (adr G (7, k, 0))), (1, .int x1), (2, .int x2)]) [1, 2, 3] rfl ?_
      exact wX7_hears_54 Y G hL k h_k σ pl e_pl F hY r sc' hR sc x1 x2 h
    · rw [if_pos c19] at h
      refine u_aload_n (pc := 40) F dX7_hears_40 1 rfl rfl ?_
      refine u_iload_n (pc := 41) F dX7_hears_41 2 rfl rfl ?_
      refine u_iload_n (pc := 42) F dX7_hears_42 0 rfl rfl ?_
      refine u_aload_n (pc := 43) F dX7_hears_43 1 rfl rfl ?_
      refine u_getA (pc := 44) F dX7_hears_44 (hL 7 k 0 h_k rfl) ck_7 fl_7_30 rfl (by decide) (by decide) ?_
      refine u_iload_n (pc := 47) F dX7_hears_47 2 rfl rfl ?_
      obtain ⟨b20, h⟩ := d_ab_some h
      refine u_aldI1 (pc := 48) F dX7_hears_48 (hL 7 k 12 h_k rfl) rfl b20 ?_
      obtain ⟨q21, hq21, h⟩ := d_bd_some h
      refine u_callv (pc := 49) F (As := [.int x1, .int v2, .int (sc 12 x1.toNatClampNeg)]) (c_X7_open G hL k h_k x1 v2 (sc 12 x1.toNatClampNeg) (upM σ 7 k sc) sc (upM_same _ _ _ _) q21 hq21) yv_X7_open ml_7_147 (hL 7 k 0 h_k rfl) rfl (by decide) rfl rfl (Nat.le_of_ble_eq_true rfl) dX7_hears_49 ?_
      refine u_mem (σ2 := (upM σ 7 k q21)) (by first | (rw [upM_upM]; done) | (rw [upM_mid _ _ _ _ (by decide)]; done) | (rw [upM_mid _ _ _ _ (by decide), upM_upM]; done) | (rw [upM_mid _ _ _ _ (by decide), upM_mid _ _ _ _ (by decide)]; done)) ?_
      refine u_iconst (v := 1) (pc := 52) F dX7_hears_52 (by decide) ?_
      have h1 := Option.some.inj h
      obtain ⟨hj0, hr0⟩ := Prod.mk.inj h1
      subst hj0
      subst hr0
      exact hR _ _ rfl dX7_hears_53
/- RollingCodes$Scene.heardByGates -/
def fX7_heardByGates_6 (pl : Grp) : Nat → Grp → Int32 → Int32 → Int32 → Int32 → Int32 → Option (Int32 × Grp)
  | 0, _, _, _, _, _, _ => none
  | fu + 1, sc, x1, x2, x3, x4, x5 =>
    if x5 < (pl 0 3) then (d_bd (fX7_isHeardAt sc pl x5 x2 x3) fun q2 => if q2 = 0 then (d_lt (x5 + (1 : Int32)) fun v4 => fX7_heardByGates_6 pl fu sc x1 x2 x3 x4 v4) else (d_bd (fX7_hears sc pl x5 x1) fun q5 => if q5.1 = 0 then (d_lt (x5 + (1 : Int32)) fun v7 => fX7_heardByGates_6 pl fu q5.2 x1 x2 x3 x4 v7) else (d_lt (x4 ||| ((1 : Int32) <<< (x5 &&& 31))) fun v8 => d_lt (x5 + (1 : Int32)) fun v9 => fX7_heardByGates_6 pl fu q5.2 x1 x2 x3 v8 v9))) else (some (x4, sc))
def fX7_heardByGates (sc : Grp) (pl : Grp) (x1 : Int32) (x2 : Int32) (x3 : Int32) : Option (Int32 × Grp) :=
    fX7_heardByGates_6 pl 1000 sc x1 x2 x3 (0 : Int32) (0 : Int32)
set_option maxHeartbeats 4000000 in
set_option maxRecDepth 100000 in
theorem wX7_heardByGates_6 (Y : Dy) (G : G0) (hL : In G) (k : Nat) (h_k : k < 24) (σ : Mem) (pl : Grp) (e_pl : σ 4 0 = pl) (F : Fx Y G cX7_heardByGates RX7 4) (hY : Y.2.2.2.2.2.2.2.2.2.2.2.1 = 6) (r : Int32) (sc' : Grp) (hR : ∀ (pc : Nat) (lv : List (Nat × Value)), narrow .int (.int r) = .int r → decode cX7_heardByGates pc = .ok (.ireturn, 1) → U Y G (upM σ 7 k (sc')) pc lv [.int r]) :
    ∀ (fu : Nat) (sc : Grp) (x1 : Int32) (x2 : Int32) (x3 : Int32) (x4 : Int32) (x5 : Int32), fX7_heardByGates_6 pl fu sc x1 x2 x3 x4 x5 = some (r, sc') → U Y G (upM σ 7 k sc) 6 [(0, .ref (adr G (7, k, 0))), (1, .int x1), (2, .int x2), (3, .int x3), (4, .int x4), (5, .int x5)] [] := by
  intro fu
  induction fu with
  | zero =>
    intro sc x1 x2 x3 x4 x5 h
    rw [fX7_heardByGates_6] at h
    cases h
  | succ fu ih =>
    intro sc x1 x2 x3 x4 x5 h
    rw [fX7_heardByGates_6] at h
    refine u_iload (pc := 6) F dX7_heardByGates_6 5 rfl ?_
    refine u_aload_n (pc := 8) F dX7_heardByGates_8 0 rfl rfl ?_
    refine u_getO (pc := 9) F dX7_heardByGates_9 (hL 7 k 0 h_k rfl) ck_7 fl_7_36 rfl (by decide) rfl ?_
    refine u_get (v := pl 0 3) (pc := 12) F dX7_heardByGates_12 (hL 4 0 0 (by decide) rfl) ck_4 fl_7_76 rfl (by decide) (congrFun (congrFun (show (upM σ 7 k sc) 4 0 = pl from e_pl) 0) 3) ?_
    refine u_icmp_ge (pc := 15) F 54 dX7_heardByGates_15 (by decide) (fun c1 => ?_) (fun c1 => ?_)
    · rw [if_neg c1] at h
      refine u_iload (pc := 54) F dX7_heardByGates_54 4 rfl ?_
      have h1 := Option.some.inj h
      obtain ⟨hj0, hr0⟩ := Prod.mk.inj h1
      subst hj0
      subst hr0
      exact hR _ _ rfl dX7_heardByGates_56
    · rw [if_pos c1] at h
      refine u_aload_n (pc := 18) F dX7_heardByGates_18 0 rfl rfl ?_
      refine u_iload (pc := 19) F dX7_heardByGates_19 5 rfl ?_
      refine u_iload_n (pc := 21) F dX7_heardByGates_21 2 rfl rfl ?_
      refine u_iload_n (pc := 22) F dX7_heardByGates_22 3 rfl rfl ?_
      obtain ⟨q2, hq2, h⟩ := d_bd_some h
      refine u_calli (pc := 23) F (As := [.int x5, .int x2, .int x3]) (c_X7_isHeardAt G hL k h_k x5 x2 x3 (upM σ 7 k sc) sc pl (upM_same _ _ _ _) ((show (upM σ 7 k sc) 4 0 = pl from e_pl)) q2 hq2) yv_X7_isHeardAt ml_7_113 (hL 7 k 0 h_k rfl) rfl (by decide) rfl rfl (Nat.le_of_ble_eq_true rfl) dX7_heardByGates_23 ?_
      refine u_if_eq (pc := 26) F 48 dX7_heardByGates_26 (by decide) (fun c3 => ?_) (fun c3 => ?_)
      · rw [if_pos c3] at h
        obtain ⟨v4, hv4, h⟩ := d_lt_some h
        refine u_iinc (lv' := [(5, .int v4), (0, .ref (adr G (7, k, 0))), (1, .int x1), (2, .int x2), (3, .int x3), (4, .int x4)]) (pc := 48) F dX7_heardByGates_48 5 rfl hv4.symm hY (by decide) rfl ?_
        refine u_goto (pc := 51) F 6 dX7_heardByGates_51 (by decide) ?_
        refine u_lv (lv' := [(0, .ref (adr G (7, k, 0))), (1, .int x1), (2, .int x2), (3, .int x3), (4, .int x4), (5, .int v4)]) [1, 2, 3, 4, 5, 0] rfl ?_
        exact ih sc x1 x2 x3 x4 v4 h
      · rw [if_neg c3] at h
        refine u_aload_n (pc := 29) F dX7_heardByGates_29 0 rfl rfl ?_
        refine u_iload (pc := 30) F dX7_heardByGates_30 5 rfl ?_
        refine u_iload_n (pc := 32) F dX7_heardByGates_32 1 rfl rfl ?_
        obtain ⟨q5, hq5, h⟩ := d_bd_some h
        refine u_calli (pc := 33) F (As := [.int x5, .int x1]) (c_X7_hears G hL k h_k x5 x1 (upM σ 7 k sc) sc pl (upM_same _ _ _ _) ((show (upM σ 7 k sc) 4 0 = pl from e_pl)) q5.1 q5.2 hq5) yv_X7_hears ml_7_106 (hL 7 k 0 h_k rfl) rfl (by decide) rfl rfl (Nat.le_of_ble_eq_true rfl) dX7_heardByGates_33 ?_
        refine u_mem (σ2 := (upM σ 7 k q5.2)) (by first | (rw [upM_upM]; done) | (rw [upM_mid _ _ _ _ (by decide)]; done) | (rw [upM_mid _ _ _ _ (by decide), upM_upM]; done) | (rw [upM_mid _ _ _ _ (by decide), upM_mid _ _ _ _ (by decide)]; done)) ?_
        refine u_if_eq (pc := 36) F 48 dX7_heardByGates_36 (by decide) (fun c6 => ?_) (fun c6 => ?_)
        · rw [if_pos c6] at h
          obtain ⟨v7, hv7, h⟩ := d_lt_some h
          refine u_iinc (lv' := [(5, .int v7), (0, .ref (adr G (7, k, 0))), (1, .int x1), (2, .int x2), (3, .int x3), (4, .int x4)]) (pc := 48) F dX7_heardByGates_48 5 rfl hv7.symm hY (by decide) rfl ?_
          refine u_goto (pc := 51) F 6 dX7_heardByGates_51 (by decide) ?_
          refine u_lv (lv' := [(0, .ref (adr G (7, k, 0))), (1, .int x1), (2, .int x2), (3, .int x3), (4, .int x4), (5, .int v7)]) [1, 2, 3, 4, 5, 0] rfl ?_
          exact ih q5.2 x1 x2 x3 x4 v7 h
        · rw [if_neg c6] at h
          refine u_iload (pc := 39) F dX7_heardByGates_39 4 rfl ?_
          refine u_iconst (v := 1) (pc := 41) F dX7_heardByGates_41 (by decide) ?_
          refine u_iload (pc := 42) F dX7_heardByGates_42 5 rfl ?_
          refine u_ishl (pc := 44) F dX7_heardByGates_44 ?_
          refine u_ior (pc := 45) F dX7_heardByGates_45 ?_
          obtain ⟨v8, hv8, h⟩ := d_lt_some h
          refine u_topi hv8 ?_
          refine u_istore (lv' := [(4, .int v8), (0, .ref (adr G (7, k, 0))), (1, .int x1), (2, .int x2), (3, .int x3), (5, .int x5)]) (pc := 46) F dX7_heardByGates_46 hY (by decide) rfl ?_
          obtain ⟨v9, hv9, h⟩ := d_lt_some h
          refine u_iinc (lv' := [(5, .int v9), (4, .int v8), (0, .ref (adr G (7, k, 0))), (1, .int x1), (2, .int x2), (3, .int x3)]) (pc := 48) F dX7_heardByGates_48 5 rfl hv9.symm hY (by decide) rfl ?_
          refine u_goto (pc := 51) F 6 dX7_heardByGates_51 (by decide) ?_
          refine u_lv (lv' := [(0, .ref (adr G (7, k, 0))), (1, .int x1), (2, .int x2), (3, .int x3), (4, .int v8), (5, .int v9)]) [2, 3, 4, 5, 1, 0] rfl ?_
          exact ih q5.2 x1 x2 x3 v8 v9 h
set_option maxHeartbeats 4000000 in
set_option maxRecDepth 100000 in
theorem c_X7_heardByGates (G : G0) (hL : In G) (k : Nat) (h_k : k < 24) (x1 : Int32) (x2 : Int32) (x3 : Int32) (σ : Mem) (sc : Grp) (pl : Grp) (e_sc : σ 7 k = sc) (e_pl : σ 4 0 = pl) (r : Int32) (sc' : Grp) (h : fX7_heardByGates sc pl x1 x2 x3 = some (r, sc')) :
    CI G yX7_heardByGates cX7_heardByGates 6 .int 4 [.ref (adr G (7, k, 0)), .int x1, .int x2, .int x3] σ r (upM σ 7 k (sc')) := by
  refine CI.of (by decide +kernel) (Nat.le_of_ble_eq_true rfl) (fun Y hY F hR => ?_)
  unfold fX7_heardByGates at h
  have F : Fx Y G cX7_heardByGates RX7 4 := F
  refine u_mem (σ2 := (upM σ 7 k sc)) (by rw [← e_sc]; simp only [upM_self]) ?_
  refine u_lv (lv' := [(0, .ref (adr G (7, k, 0))), (1, .int x1), (2, .int x2), (3, .int x3)]) [0, 1, 2, 3] rfl ?_
  refine u_iconst (v := 0) (pc := 0) F dX7_heardByGates_0 (by decide) ?_
  refine u_istore (lv' := [(4, .int (0 : Int32)), (0, .ref (adr G (7, k, 0))), (1, .int x1), (2, .int x2), (3, .int x3)]) (pc := 1) F dX7_heardByGates_1 hY (by decide) rfl ?_
  refine u_iconst (v := 0) (pc := 3) F dX7_heardByGates_3 (by decide) ?_
  refine u_istore (lv' := [(5, .int (0 : Int32)), (4, .int (0 : Int32)), (0, .ref (adr G (7, k, 0))), (1, .int x1), (2, .int x2), (3, .int x3)]) (pc := 4) F dX7_heardByGates_4 hY (by decide) rfl ?_
  refine u_lv (lv' := [(0, .ref (adr G (7, k, 0))), (1, .int x1), (2, .int x2), (3, .int x3), (4, .int (0 : Int32)), (5, .int (0 : Int32))]) [2, 3, 4, 5, 1, 0] rfl ?_
  exact wX7_heardByGates_6 Y G hL k h_k σ pl e_pl F hY r sc' hR 1000 sc x1 x2 x3 (0 : Int32) (0 : Int32) h
/- RollingCodes$Scene.heardByEar -/
def fX7_heardByEar (sc : Grp) (pl : Grp) (x1 : Int32) (x2 : Int32) (x3 : Int32) : Option (Grp) :=
    d_lt (if (0 : Int32) ≤ ((sc 0 2) - x2) then ((sc 0 2) - x2) else 0 - ((sc 0 2) - x2)) fun v1 => d_lt (if x3 < (pl 0 2) then (pl 0 2) else x3) fun v2 => if v1 ≤ v2 then (d_lt (wa sc 6 (va_cpy (sc 6) (sc 6) (0 : Int32).toNatClampNeg (1 : Int32).toNatClampNeg (7 : Int32).toNatClampNeg)) fun g4 => d_ab (0 : Int32) 8 <| d_lt (wr g4 6 (0 : Int32).toNatClampNeg x1) fun g6 => d_lt (if (8 : Int32) < ((g6 0 4) + (1 : Int32)) then (8 : Int32) else ((g6 0 4) + (1 : Int32))) fun v7 => d_lt (wr g6 0 4 v7) fun g8 => some g8) else (some sc)
set_option maxHeartbeats 4000000 in
set_option maxRecDepth 100000 in
theorem c_X7_heardByEar (G : G0) (hL : In G) (k : Nat) (h_k : k < 24) (x1 : Int32) (x2 : Int32) (x3 : Int32) (σ : Mem) (sc : Grp) (pl : Grp) (e_sc : σ 7 k = sc) (e_pl : σ 4 0 = pl) (sc' : Grp) (h : fX7_heardByEar sc pl x1 x2 x3 = some sc') :
    CV G yX7_heardByEar cX7_heardByEar 4 1 [.ref (adr G (7, k, 0)), .int x1, .int x2, .int x3] σ (upM σ 7 k (sc')) := by
  refine CV.of (by decide +kernel) (Nat.le_of_ble_eq_true rfl) (fun Y hY F hR => ?_)
  unfold fX7_heardByEar at h
  have F : Fx Y G cX7_heardByEar RX7 1 := F
  refine u_mem (σ2 := (upM σ 7 k sc)) (by rw [← e_sc]; simp only [upM_self]) ?_
  refine u_lv (lv' := [(0, .ref (adr G (7, k, 0))), (1, .int x1), (2, .int x2), (3, .int x3)]) [0, 1, 2, 3] rfl ?_
  refine u_aload_n (pc := 0) F dX7_heardByEar_0 0 rfl rfl ?_
  refine u_get1 (pc := 1) F dX7_heardByEar_1 (hL 7 k 0 h_k rfl) ck_7 fl_7_49 rfl (by decide) ?_
  refine u_iload_n (pc := 4) F dX7_heardByEar_4 2 rfl rfl ?_
  refine u_isub (pc := 5) F dX7_heardByEar_5 ?_
  refine u_abs (pc := 6) F mk_7_133 mt_s_abs mt_i mt_c_abs (by decide) (Nat.le_of_ble_eq_true rfl) dX7_heardByEar_6 ?_
  obtain ⟨v1, hv1, h⟩ := d_lt_some h
  refine u_topi hv1 ?_
  refine u_iload_n (pc := 9) F dX7_heardByEar_9 3 rfl rfl ?_
  refine u_aload_n (pc := 10) F dX7_heardByEar_10 0 rfl rfl ?_
  refine u_getO (pc := 11) F dX7_heardByEar_11 (hL 7 k 0 h_k rfl) ck_7 fl_7_36 rfl (by decide) rfl ?_
  refine u_get (v := pl 0 2) (pc := 14) F dX7_heardByEar_14 (hL 4 0 0 (by decide) rfl) ck_4 fl_7_110 rfl (by decide) (congrFun (congrFun (show (upM σ 7 k sc) 4 0 = pl from e_pl) 0) 2) ?_
  refine u_max (pc := 17) F mk_7_138 mt_s_max mt_i mt_c_max (by decide) (Nat.le_of_ble_eq_true rfl) dX7_heardByEar_17 ?_
  obtain ⟨v2, hv2, h⟩ := d_lt_some h
  refine u_topi hv2 ?_
  refine u_icmp_le (pc := 20) F 24 dX7_heardByEar_20 (by decide) (fun c3 => ?_) (fun c3 => ?_)
  · rw [if_pos c3] at h
    refine u_aload_n (pc := 24) F dX7_heardByEar_24 0 rfl rfl ?_
    refine u_getA (pc := 25) F dX7_heardByEar_25 (hL 7 k 0 h_k rfl) ck_7 fl_7_9 rfl (by decide) (by decide) ?_
    refine u_iconst (v := 0) (pc := 28) F dX7_heardByEar_28 (by decide) ?_
    refine u_aload_n (pc := 29) F dX7_heardByEar_29 0 rfl rfl ?_
    refine u_getA (pc := 30) F dX7_heardByEar_30 (hL 7 k 0 h_k rfl) ck_7 fl_7_9 rfl (by decide) (by decide) ?_
    refine u_iconst (v := 1) (pc := 33) F dX7_heardByEar_33 (by decide) ?_
    refine u_bipush (v := 7) (pc := 34) F dX7_heardByEar_34 (by decide) ?_
    refine u_copy (pc := 36) F (hL 7 k 6 h_k rfl) rfl (hL 7 k 6 h_k rfl) rfl mk_7_70 ac_n ac_s ac_i (by decide) (by decide) (by decide) (by decide) (by decide) (by decide) (Nat.le_of_ble_eq_true rfl) dX7_heardByEar_36 ?_
    refine u_mem (σ2 := (upM σ 7 k (wa sc 6 (va_cpy (sc 6) (sc 6) (0 : Int32).toNatClampNeg (1 : Int32).toNatClampNeg (7 : Int32).toNatClampNeg)))) (by rw [show (upM σ 7 k sc) 7 k = sc from upM_same _ _ _ _, upM_upM]) ?_
    obtain ⟨g4, hg4, h⟩ := d_lt_some h
    refine u_mem (σ2 := (upM σ 7 k g4)) (by rw [hg4]) ?_
    refine u_aload_n (pc := 39) F dX7_heardByEar_39 0 rfl rfl ?_
    refine u_getA (pc := 40) F dX7_heardByEar_40 (hL 7 k 0 h_k rfl) ck_7 fl_7_9 rfl (by decide) (by decide) ?_
    refine u_iconst (v := 0) (pc := 43) F dX7_heardByEar_43 (by decide) ?_
    refine u_iload_n (pc := 44) F dX7_heardByEar_44 1 rfl rfl ?_
    obtain ⟨b5, h⟩ := d_ab_some h
    refine u_astI1 (pc := 45) F dX7_heardByEar_45 (hL 7 k 6 h_k rfl) rfl b5 ?_
    obtain ⟨g6, hg6, h⟩ := d_lt_some h
    refine u_mem (σ2 := (upM σ 7 k g6)) (by rw [hg6]) ?_
    refine u_aload_n (pc := 46) F dX7_heardByEar_46 0 rfl rfl ?_
    refine u_aload_n (pc := 47) F dX7_heardByEar_47 0 rfl rfl ?_
    refine u_get1 (pc := 48) F dX7_heardByEar_48 (hL 7 k 0 h_k rfl) ck_7 fl_7_53 rfl (by decide) ?_
    refine u_iconst (v := 1) (pc := 51) F dX7_heardByEar_51 (by decide) ?_
    refine u_iadd (pc := 52) F dX7_heardByEar_52 ?_
    refine u_bipush (v := 8) (pc := 53) F dX7_heardByEar_53 (by decide) ?_
    refine u_min (pc := 55) F mk_7_141 mt_s_min mt_i mt_c_min (by decide) (Nat.le_of_ble_eq_true rfl) dX7_heardByEar_55 ?_
    obtain ⟨v7, hv7, h⟩ := d_lt_some h
    refine u_topi hv7 ?_
    refine u_put1 (pc := 58) F dX7_heardByEar_58 (hL 7 k 0 h_k rfl) ck_7 fl_7_53 rfl (by decide) rfl (ty0 := .int) (by decide +kernel) rfl rfl ?_
    obtain ⟨g8, hg8, h⟩ := d_lt_some h
    refine u_mem (σ2 := (upM σ 7 k g8)) (by rw [hg8]) ?_
    have h1 := Option.some.inj h
    subst h1
    exact hR _ _ dX7_heardByEar_61
  · rw [if_neg c3] at h
    have h1 := Option.some.inj h
    subst h1
    exact hR _ _ dX7_heardByEar_23
/- RollingCodes$Scene.pressedFrom -/
def fX7_pressedFrom_33 (pl : Grp) : Nat → Grp → Int32 → Int32 → Int32 → Int32 → Int32 → Option (Int32 × Grp)
  | 0, _, _, _, _, _, _ => none
  | fu + 1, sc, x1, x2, x3, x4, x5 =>
    d_bd (fX4_sendings pl x1) fun q7 => if x5 < q7 then (d_bd (fX7_nextCode sc pl x1) fun q9 => d_bd (fX7_heardByGates q9.2 pl q9.1 x2 x3) fun q10 => d_lt (x4 ||| q10.1) fun v11 => d_bd (fX7_heardByEar q10.2 pl q9.1 x2 x3) fun q12 => d_lt (x5 + (1 : Int32)) fun v13 => fX7_pressedFrom_33 pl fu q12 x1 x2 x3 v11 v13) else (some (x4, sc))
def fX7_pressedFrom (sc : Grp) (pl : Grp) (x1 : Int32) (x2 : Int32) : Option (Int32 × Grp) :=
    d_ab x1 5 <| if (sc 9 x1.toNatClampNeg) ≤ 0 then (some ((0 : Int32), sc)) else (d_ab x1 5 <| d_ab x1 5 <| d_lt (wr sc 9 x1.toNatClampNeg ((sc 9 x1.toNatClampNeg) - (1 : Int32))) fun g5 => d_bd (fX7_rangeNow g5 pl x1) fun q6 => fX7_pressedFrom_33 pl 1000 g5 x1 x2 q6 (0 : Int32) (0 : Int32))
set_option maxHeartbeats 4000000 in
set_option maxRecDepth 100000 in
theorem wX7_pressedFrom_33 (Y : Dy) (G : G0) (hL : In G) (k : Nat) (h_k : k < 24) (σ : Mem) (pl : Grp) (e_pl : σ 4 0 = pl) (F : Fx Y G cX7_pressedFrom RX7 5) (hY : Y.2.2.2.2.2.2.2.2.2.2.2.1 = 7) (r : Int32) (sc' : Grp) (hR : ∀ (pc : Nat) (lv : List (Nat × Value)), narrow .int (.int r) = .int r → decode cX7_pressedFrom pc = .ok (.ireturn, 1) → U Y G (upM σ 7 k (sc')) pc lv [.int r]) :
    ∀ (fu : Nat) (sc : Grp) (x1 : Int32) (x2 : Int32) (x3 : Int32) (x4 : Int32) (x5 : Int32), fX7_pressedFrom_33 pl fu sc x1 x2 x3 x4 x5 = some (r, sc') → U Y G (upM σ 7 k sc) 33 [(0, .ref (adr G (7, k, 0))), (1, .int x1), (2, .int x2), (3, .int x3), (4, .int x4), (5, .int x5)] [] := by
  intro fu
  induction fu with
  | zero =>
    intro sc x1 x2 x3 x4 x5 h
    rw [fX7_pressedFrom_33] at h
    cases h
  | succ fu ih =>
    intro sc x1 x2 x3 x4 x5 h
    rw [fX7_pressedFrom_33] at h
    refine u_iload (pc := 33) F dX7_pressedFrom_33 5 rfl ?_
    refine u_aload_n (pc := 35) F dX7_pressedFrom_35 0 rfl rfl ?_
    refine u_getO (pc := 36) F dX7_pressedFrom_36 (hL 7 k 0 h_k rfl) ck_7 fl_7_36 rfl (by decide) rfl ?_
    refine u_iload_n (pc := 39) F dX7_pressedFrom_39 1 rfl rfl ?_
    obtain ⟨q7, hq7, h⟩ := d_bd_some h
    refine u_calli (pc := 40) F (As := [.int x1]) (c_X4_sendings G hL 0 (by decide) x1 (upM σ 7 k sc) pl ((show (upM σ 7 k sc) 4 0 = pl from e_pl)) q7 hq7) yv_X4_sendings ml_7_90 (hL 4 0 0 (by decide) rfl) rfl (by decide) rfl rfl (Nat.le_of_ble_eq_true rfl) dX7_pressedFrom_40 ?_
    refine u_icmp_ge (pc := 43) F 80 dX7_pressedFrom_43 (by decide) (fun c8 => ?_) (fun c8 => ?_)
    · rw [if_neg c8] at h
      refine u_iload (pc := 80) F dX7_pressedFrom_80 4 rfl ?_
      have h1 := Option.some.inj h
      obtain ⟨hj0, hr0⟩ := Prod.mk.inj h1
      subst hj0
      subst hr0
      exact hR _ _ rfl dX7_pressedFrom_82
    · rw [if_pos c8] at h
      refine u_aload_n (pc := 46) F dX7_pressedFrom_46 0 rfl rfl ?_
      refine u_iload_n (pc := 47) F dX7_pressedFrom_47 1 rfl rfl ?_
      obtain ⟨q9, hq9, h⟩ := d_bd_some h
      refine u_calli (pc := 48) F (As := [.int x1]) (c_X7_nextCode G hL k h_k x1 (upM σ 7 k sc) sc pl (upM_same _ _ _ _) ((show (upM σ 7 k sc) 4 0 = pl from e_pl)) q9.1 q9.2 hq9) yv_X7_nextCode ml_7_93 (hL 7 k 0 h_k rfl) rfl (by decide) rfl rfl (Nat.le_of_ble_eq_true rfl) dX7_pressedFrom_48 ?_
      refine u_mem (σ2 := (upM σ 7 k q9.2)) (by first | (rw [upM_upM]; done) | (rw [upM_mid _ _ _ _ (by decide)]; done) | (rw [upM_mid _ _ _ _ (by decide), upM_upM]; done) | (rw [upM_mid _ _ _ _ (by decide), upM_mid _ _ _ _ (by decide)]; done)) ?_
      refine u_istore (lv' := [(6, .int q9.1), (0, .ref (adr G (7, k, 0))), (1, .int x1), (2, .int x2), (3, .int x3), (4, .int x4), (5, .int x5)]) (pc := 51) F dX7_pressedFrom_51 hY (by decide) rfl ?_
      refine u_iload (pc := 53) F dX7_pressedFrom_53 5 rfl ?_
      refine u_aload_n (pc := 55) F dX7_pressedFrom_55 1 rfl rfl ?_
      refine u_iload (pc := 56) F dX7_pressedFrom_56 0 rfl ?_
      refine u_iload_n (pc := 58) F dX7_pressedFrom_58 3 rfl rfl ?_
      refine u_iload_n (pc := 59) F dX7_pressedFrom_59 4 rfl rfl ?_
      obtain ⟨q10, hq10, h⟩ := d_bd_some h
      refine u_calli (pc := 60) F (As := [.int q9.1, .int x2, .int x3]) (c_X7_heardByGates G hL k h_k q9.1 x2 x3 (upM σ 7 k q9.2) q9.2 pl (upM_same _ _ _ _) ((show (upM σ 7 k q9.2) 4 0 = pl from e_pl)) q10.1 q10.2 hq10) yv_X7_heardByGates ml_7_96 (hL 7 k 0 h_k rfl) rfl (by decide) rfl rfl (Nat.le_of_ble_eq_true rfl) dX7_pressedFrom_60 ?_
      refine u_mem (σ2 := (upM σ 7 k q10.2)) (by first | (rw [upM_upM]; done) | (rw [upM_mid _ _ _ _ (by decide)]; done) | (rw [upM_mid _ _ _ _ (by decide), upM_upM]; done) | (rw [upM_mid _ _ _ _ (by decide), upM_mid _ _ _ _ (by decide)]; done)) ?_
      refine u_ior (pc := 63) F dX7_pressedFrom_63 ?_
      obtain ⟨v11, hv11, h⟩ := d_lt_some h
      refine u_topi hv11 ?_
      refine u_istore (lv' := [(4, .int v11), (6, .int q9.1), (0, .ref (adr G (7, k, 0))), (1, .int x1), (2, .int x2), (3, .int x3), (5, .int x5)]) (pc := 64) F dX7_pressedFrom_64 hY (by decide) rfl ?_
      refine u_aload_n (pc := 66) F dX7_pressedFrom_66 2 rfl rfl ?_
      refine u_iload (pc := 67) F dX7_pressedFrom_67 1 rfl ?_
      refine u_iload_n (pc := 69) F dX7_pressedFrom_69 4 rfl rfl ?_
      refine u_iload_n (pc := 70) F dX7_pressedFrom_70 5 rfl rfl ?_
      obtain ⟨q12, hq12, h⟩ := d_bd_some h
      refine u_callv (pc := 71) F (As := [.int q9.1, .int x2, .int x3]) (c_X7_heardByEar G hL k h_k q9.1 x2 x3 (upM σ 7 k q10.2) q10.2 pl (upM_same _ _ _ _) ((show (upM σ 7 k q10.2) 4 0 = pl from e_pl)) q12 hq12) yv_X7_heardByEar ml_7_100 (hL 7 k 0 h_k rfl) rfl (by decide) rfl rfl (Nat.le_of_ble_eq_true rfl) dX7_pressedFrom_71 ?_
      refine u_mem (σ2 := (upM σ 7 k q12)) (by first | (rw [upM_upM]; done) | (rw [upM_mid _ _ _ _ (by decide)]; done) | (rw [upM_mid _ _ _ _ (by decide), upM_upM]; done) | (rw [upM_mid _ _ _ _ (by decide), upM_mid _ _ _ _ (by decide)]; done)) ?_
      obtain ⟨v13, hv13, h⟩ := d_lt_some h
      refine u_iinc (lv' := [(5, .int v13), (4, .int v11), (6, .int q9.1), (0, .ref (adr G (7, k, 0))), (1, .int x1), (2, .int x2), (3, .int x3)]) (pc := 74) F dX7_pressedFrom_74 6 rfl hv13.symm hY (by decide) rfl ?_
      refine u_goto (pc := 77) F 33 dX7_pressedFrom_77 (by decide) ?_
      refine u_lv (lv' := [(0, .ref (adr G (7, k, 0))), (1, .int x1), (2, .int x2), (3, .int x3), (4, .int v11), (5, .int v13)]) [3, 4, 5, 6, 1, 0] rfl ?_
      exact ih q12 x1 x2 x3 v11 v13 h
set_option maxHeartbeats 4000000 in
set_option maxRecDepth 100000 in
theorem c_X7_pressedFrom (G : G0) (hL : In G) (k : Nat) (h_k : k < 24) (x1 : Int32) (x2 : Int32) (σ : Mem) (sc : Grp) (pl : Grp) (e_sc : σ 7 k = sc) (e_pl : σ 4 0 = pl) (r : Int32) (sc' : Grp) (h : fX7_pressedFrom sc pl x1 x2 = some (r, sc')) :
    CI G yX7_pressedFrom cX7_pressedFrom 7 .int 5 [.ref (adr G (7, k, 0)), .int x1, .int x2] σ r (upM σ 7 k (sc')) := by
  refine CI.of (by decide +kernel) (Nat.le_of_ble_eq_true rfl) (fun Y hY F hR => ?_)
  unfold fX7_pressedFrom at h
  have F : Fx Y G cX7_pressedFrom RX7 5 := F
  refine u_mem (σ2 := (upM σ 7 k sc)) (by rw [← e_sc]; simp only [upM_self]) ?_
  refine u_lv (lv' := [(0, .ref (adr G (7, k, 0))), (1, .int x1), (2, .int x2)]) [0, 1, 2] rfl ?_
  refine u_aload_n (pc := 0) F dX7_pressedFrom_0 0 rfl rfl ?_
  refine u_getA (pc := 1) F dX7_pressedFrom_1 (hL 7 k 0 h_k rfl) ck_7 fl_7_21 rfl (by decide) (by decide) ?_
  refine u_iload_n (pc := 4) F dX7_pressedFrom_4 1 rfl rfl ?_
  obtain ⟨b1, h⟩ := d_ab_some h
  refine u_aldI1 (pc := 5) F dX7_pressedFrom_5 (hL 7 k 9 h_k rfl) rfl b1 ?_
  refine u_if_gt (pc := 6) F 11 dX7_pressedFrom_6 (by decide) (fun c2 => ?_) (fun c2 => ?_)
  · rw [if_neg c2] at h
    refine u_aload_n (pc := 11) F dX7_pressedFrom_11 0 rfl rfl ?_
    refine u_getA (pc := 12) F dX7_pressedFrom_12 (hL 7 k 0 h_k rfl) ck_7 fl_7_21 rfl (by decide) (by decide) ?_
    refine u_iload_n (pc := 15) F dX7_pressedFrom_15 1 rfl rfl ?_
    refine u_dup2 (pc := 16) F dX7_pressedFrom_16 rfl rfl ?_
    obtain ⟨b3, h⟩ := d_ab_some h
    refine u_aldI1 (pc := 17) F dX7_pressedFrom_17 (hL 7 k 9 h_k rfl) rfl b3 ?_
    refine u_iconst (v := 1) (pc := 18) F dX7_pressedFrom_18 (by decide) ?_
    refine u_isub (pc := 19) F dX7_pressedFrom_19 ?_
    obtain ⟨b4, h⟩ := d_ab_some h
    refine u_astI1 (pc := 20) F dX7_pressedFrom_20 (hL 7 k 9 h_k rfl) rfl b4 ?_
    obtain ⟨g5, hg5, h⟩ := d_lt_some h
    refine u_mem (σ2 := (upM σ 7 k g5)) (by rw [hg5]) ?_
    refine u_aload_n (pc := 21) F dX7_pressedFrom_21 0 rfl rfl ?_
    refine u_iload_n (pc := 22) F dX7_pressedFrom_22 1 rfl rfl ?_
    obtain ⟨q6, hq6, h⟩ := d_bd_some h
    refine u_calli (pc := 23) F (As := [.int x1]) (c_X7_rangeNow G hL k h_k x1 (upM σ 7 k g5) g5 pl (upM_same _ _ _ _) ((show (upM σ 7 k g5) 4 0 = pl from e_pl)) q6 hq6) yv_X7_rangeNow ml_7_86 (hL 7 k 0 h_k rfl) rfl (by decide) rfl rfl (Nat.le_of_ble_eq_true rfl) dX7_pressedFrom_23 ?_
    refine u_istore_n (lv' := [(3, .int q6), (0, .ref (adr G (7, k, 0))), (1, .int x1), (2, .int x2)]) (pc := 26) F dX7_pressedFrom_26 rfl hY (by decide) rfl ?_
    refine u_iconst (v := 0) (pc := 27) F dX7_pressedFrom_27 (by decide) ?_
    refine u_istore (lv' := [(4, .int (0 : Int32)), (3, .int q6), (0, .ref (adr G (7, k, 0))), (1, .int x1), (2, .int x2)]) (pc := 28) F dX7_pressedFrom_28 hY (by decide) rfl ?_
    refine u_iconst (v := 0) (pc := 30) F dX7_pressedFrom_30 (by decide) ?_
    refine u_istore (lv' := [(5, .int (0 : Int32)), (4, .int (0 : Int32)), (3, .int q6), (0, .ref (adr G (7, k, 0))), (1, .int x1), (2, .int x2)]) (pc := 31) F dX7_pressedFrom_31 hY (by decide) rfl ?_
    refine u_lv (lv' := [(0, .ref (adr G (7, k, 0))), (1, .int x1), (2, .int x2), (3, .int q6), (4, .int (0 : Int32)), (5, .int (0 : Int32))]) [3, 4, 5, 2, 1, 0] rfl ?_
    exact wX7_pressedFrom_33 Y G hL k h_k σ pl e_pl F hY r sc' hR 1000 g5 x1 x2 q6 (0 : Int32) (0 : Int32) h
  · rw [if_pos c2] at h
    refine u_iconst (v := 0) (pc := 9) F dX7_pressedFrom_9 (by decide) ?_
    have h1 := Option.some.inj h
    obtain ⟨hj0, hr0⟩ := Prod.mk.inj h1
    subst hj0
    subst hr0
    exact hR _ _ rfl dX7_pressedFrom_10
/- RollingCodes$Scene.isKept -/
def fX7_isKept (sc : Grp) (x1 : Int32) : Option (Int32) :=
    if x1 < 0 then (some (0 : Int32)) else (if x1 < (sc 0 4) then (some (1 : Int32)) else (some (0 : Int32)))
set_option maxHeartbeats 4000000 in
set_option maxRecDepth 100000 in
theorem c_X7_isKept (G : G0) (hL : In G) (k : Nat) (h_k : k < 24) (x1 : Int32) (σ : Mem) (sc : Grp) (e_sc : σ 7 k = sc) (r : Int32) (h : fX7_isKept sc x1 = some r) :
    CI G yX7_isKept cX7_isKept 2 .boolean 1 [.ref (adr G (7, k, 0)), .int x1] σ r σ := by
  refine CI.of (by decide +kernel) (Nat.le_of_ble_eq_true rfl) (fun Y hY F hR => ?_)
  unfold fX7_isKept at h
  have F : Fx Y G cX7_isKept RX7 1 := F
  refine u_lv (lv' := [(0, .ref (adr G (7, k, 0))), (1, .int x1)]) [0, 1] rfl ?_
  refine u_iload_n (pc := 0) F dX7_isKept_0 1 rfl rfl ?_
  refine u_if_lt (pc := 1) F 16 dX7_isKept_1 (by decide) (fun c1 => ?_) (fun c1 => ?_)
  · rw [if_pos c1] at h
    refine u_iconst (v := 0) (pc := 16) F dX7_isKept_16 (by decide) ?_
    have h1 := Option.some.inj h
    subst h1
    exact hR _ _ rfl dX7_isKept_17
  · rw [if_neg c1] at h
    refine u_iload_n (pc := 4) F dX7_isKept_4 1 rfl rfl ?_
    refine u_aload_n (pc := 5) F dX7_isKept_5 0 rfl rfl ?_
    refine u_get (v := sc 0 4) (pc := 6) F dX7_isKept_6 (hL 7 k 0 h_k rfl) ck_7 fl_7_53 rfl (by decide) (congrFun (congrFun (show σ 7 k = sc from e_sc) 0) 4) ?_
    refine u_icmp_ge (pc := 9) F 16 dX7_isKept_9 (by decide) (fun c2 => ?_) (fun c2 => ?_)
    · rw [if_neg c2] at h
      refine u_iconst (v := 0) (pc := 16) F dX7_isKept_16 (by decide) ?_
      have h1 := Option.some.inj h
      subst h1
      exact hR _ _ rfl dX7_isKept_17
    · rw [if_pos c2] at h
      refine u_iconst (v := 1) (pc := 12) F dX7_isKept_12 (by decide) ?_
      refine u_goto (pc := 13) F 17 dX7_isKept_13 (by decide) ?_
      have h1 := Option.some.inj h
      subst h1
      exact hR _ _ rfl dX7_isKept_17
/- RollingCodes$Scene.turnNoise -/
def fX7_turnNoise (sc : Grp) (x1 : Int32) : Option (Grp) :=
    d_lt (wr sc 0 3 ((sc 0 3) ^^^ ((1 : Int32) <<< (x1 &&& 31)))) fun g1 => some g1
set_option maxHeartbeats 4000000 in
set_option maxRecDepth 100000 in
theorem c_X7_turnNoise (G : G0) (hL : In G) (k : Nat) (h_k : k < 24) (x1 : Int32) (σ : Mem) (sc : Grp) (e_sc : σ 7 k = sc) (sc' : Grp) (h : fX7_turnNoise sc x1 = some sc') :
    CV G yX7_turnNoise cX7_turnNoise 2 1 [.ref (adr G (7, k, 0)), .int x1] σ (upM σ 7 k (sc')) := by
  refine CV.of (by decide +kernel) (Nat.le_of_ble_eq_true rfl) (fun Y hY F hR => ?_)
  unfold fX7_turnNoise at h
  have F : Fx Y G cX7_turnNoise RX7 1 := F
  refine u_mem (σ2 := (upM σ 7 k sc)) (by rw [← e_sc]; simp only [upM_self]) ?_
  refine u_lv (lv' := [(0, .ref (adr G (7, k, 0))), (1, .int x1)]) [0, 1] rfl ?_
  refine u_aload_n (pc := 0) F dX7_turnNoise_0 0 rfl rfl ?_
  refine u_dup (pc := 1) F dX7_turnNoise_1 rfl ?_
  refine u_get1 (pc := 2) F dX7_turnNoise_2 (hL 7 k 0 h_k rfl) ck_7 fl_7_50 rfl (by decide) ?_
  refine u_iconst (v := 1) (pc := 5) F dX7_turnNoise_5 (by decide) ?_
  refine u_iload_n (pc := 6) F dX7_turnNoise_6 1 rfl rfl ?_
  refine u_ishl (pc := 7) F dX7_turnNoise_7 ?_
  refine u_ixor (pc := 8) F dX7_turnNoise_8 ?_
  refine u_put1 (pc := 9) F dX7_turnNoise_9 (hL 7 k 0 h_k rfl) ck_7 fl_7_50 rfl (by decide) rfl (ty0 := .int) (by decide +kernel) rfl rfl ?_
  obtain ⟨g1, hg1, h⟩ := d_lt_some h
  refine u_mem (σ2 := (upM σ 7 k g1)) (by rw [hg1]) ?_
  have h1 := Option.some.inj h
  subst h1
  exact hR _ _ dX7_turnNoise_12
/- RollingCodes$Scene.sentAgain -/
def fX7_sentAgain (sc : Grp) (pl : Grp) (x1 : Int32) : Option (Int32 × Grp) :=
    d_ab x1 8 <| d_bd (fX7_heardByGates sc pl (sc 6 x1.toNatClampNeg) (sc 0 2) (pl 0 2)) fun q2 => some (q2.1, q2.2)
set_option maxHeartbeats 4000000 in
set_option maxRecDepth 100000 in
theorem c_X7_sentAgain (G : G0) (hL : In G) (k : Nat) (h_k : k < 24) (x1 : Int32) (σ : Mem) (sc : Grp) (pl : Grp) (e_sc : σ 7 k = sc) (e_pl : σ 4 0 = pl) (r : Int32) (sc' : Grp) (h : fX7_sentAgain sc pl x1 = some (r, sc')) :
    CI G yX7_sentAgain cX7_sentAgain 2 .int 5 [.ref (adr G (7, k, 0)), .int x1] σ r (upM σ 7 k (sc')) := by
  refine CI.of (by decide +kernel) (Nat.le_of_ble_eq_true rfl) (fun Y hY F hR => ?_)
  unfold fX7_sentAgain at h
  have F : Fx Y G cX7_sentAgain RX7 5 := F
  refine u_mem (σ2 := (upM σ 7 k sc)) (by rw [← e_sc]; simp only [upM_self]) ?_
  refine u_lv (lv' := [(0, .ref (adr G (7, k, 0))), (1, .int x1)]) [0, 1] rfl ?_
  refine u_aload_n (pc := 0) F dX7_sentAgain_0 0 rfl rfl ?_
  refine u_aload_n (pc := 1) F dX7_sentAgain_1 0 rfl rfl ?_
  refine u_getA (pc := 2) F dX7_sentAgain_2 (hL 7 k 0 h_k rfl) ck_7 fl_7_9 rfl (by decide) (by decide) ?_
  refine u_iload_n (pc := 5) F dX7_sentAgain_5 1 rfl rfl ?_
  obtain ⟨b1, h⟩ := d_ab_some h
  refine u_aldI1 (pc := 6) F dX7_sentAgain_6 (hL 7 k 6 h_k rfl) rfl b1 ?_
  refine u_aload_n (pc := 7) F dX7_sentAgain_7 0 rfl rfl ?_
  refine u_get1 (pc := 8) F dX7_sentAgain_8 (hL 7 k 0 h_k rfl) ck_7 fl_7_49 rfl (by decide) ?_
  refine u_aload_n (pc := 11) F dX7_sentAgain_11 0 rfl rfl ?_
  refine u_getO (pc := 12) F dX7_sentAgain_12 (hL 7 k 0 h_k rfl) ck_7 fl_7_36 rfl (by decide) rfl ?_
  refine u_get (v := pl 0 2) (pc := 15) F dX7_sentAgain_15 (hL 4 0 0 (by decide) rfl) ck_4 fl_7_110 rfl (by decide) (congrFun (congrFun (show (upM σ 7 k sc) 4 0 = pl from e_pl) 0) 2) ?_
  obtain ⟨q2, hq2, h⟩ := d_bd_some h
  refine u_calli (pc := 18) F (As := [.int (sc 6 x1.toNatClampNeg), .int (sc 0 2), .int (pl 0 2)]) (c_X7_heardByGates G hL k h_k (sc 6 x1.toNatClampNeg) (sc 0 2) (pl 0 2) (upM σ 7 k sc) sc pl (upM_same _ _ _ _) ((show (upM σ 7 k sc) 4 0 = pl from e_pl)) q2.1 q2.2 hq2) yv_X7_heardByGates ml_7_96 (hL 7 k 0 h_k rfl) rfl (by decide) rfl rfl (Nat.le_of_ble_eq_true rfl) dX7_sentAgain_18 ?_
  refine u_mem (σ2 := (upM σ 7 k q2.2)) (by first | (rw [upM_upM]; done) | (rw [upM_mid _ _ _ _ (by decide)]; done) | (rw [upM_mid _ _ _ _ (by decide), upM_upM]; done) | (rw [upM_mid _ _ _ _ (by decide), upM_mid _ _ _ _ (by decide)]; done)) ?_
  have h1 := Option.some.inj h
  obtain ⟨hj0, hr0⟩ := Prod.mk.inj h1
  subst hj0
  subst hr0
  exact hR _ _ rfl dX7_sentAgain_21
