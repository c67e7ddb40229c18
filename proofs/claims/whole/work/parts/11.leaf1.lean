/- RollingCodes$Text.add -/
def fX9_add (tx : Grp) (x1 : Int32) : Option (Int32 × Grp) :=
    if (tx 0 1) < (240 : Int32) then (d_ab (tx 0 1) 240 <| d_lt (wr tx 1 (tx 0 1).toNatClampNeg x1) fun g3 => d_lt (wr g3 0 1 ((g3 0 1) + (1 : Int32))) fun g4 => some ((1 : Int32), g4)) else (some ((0 : Int32), tx))
set_option maxHeartbeats 4000000 in
set_option maxRecDepth 100000 in
theorem c_X9_add (G : G0) (hL : In G) (x1 : Int32) (σ : Mem) (tx : Grp) (e_tx : σ 9 0 = tx) (r : Int32) (tx' : Grp) (h : fX9_add tx x1 = some (r, tx')) :
    CI G yX9_add cX9_add 2 .boolean 1 [.ref (adr G (9, 0, 0)), .int x1] σ r (upM σ 9 0 (tx')) := by
  refine CI.of (by decide +kernel) (Nat.le_of_ble_eq_true rfl) (fun Y hY F hR => ?_)
  unfold fX9_add at h
  have F : Fx Y G cX9_add RX9 1 := F
  refine u_mem (σ2 := (upM σ 9 0 tx)) (by rw [← e_tx]; simp only [upM_self]) ?_
  refine u_lv (lv' := [(0, .ref (adr G (9, 0, 0))), (1, .int x1)]) [0, 1] rfl ?_
  refine u_aload_n (pc := 0) F dX9_add_0 0 rfl rfl ?_
  refine u_get1 (pc := 1) F dX9_add_1 (hL 9 0 0 (by decide) rfl) ck_9 fl_9_15 rfl (by decide) ?_
  refine u_sipush (v := 240) (pc := 4) F dX9_add_4 (by decide) ?_
  refine u_icmp_lt (pc := 7) F 12 dX9_add_7 (by decide) (fun c1 => ?_) (fun c1 => ?_)
  · rw [if_pos c1] at h
    refine u_aload_n (pc := 12) F dX9_add_12 0 rfl rfl ?_
    refine u_getA (pc := 13) F dX9_add_13 (hL 9 0 0 (by decide) rfl) ck_9 fl_9_9 rfl (by decide) (by decide) ?_
    refine u_aload_n (pc := 16) F dX9_add_16 0 rfl rfl ?_
    refine u_get1 (pc := 17) F dX9_add_17 (hL 9 0 0 (by decide) rfl) ck_9 fl_9_15 rfl (by decide) ?_
    refine u_iload_n (pc := 20) F dX9_add_20 1 rfl rfl ?_
    obtain ⟨b2, h⟩ := d_ab_some h
    refine u_astI1 (pc := 21) F dX9_add_21 (hL 9 0 1 (by decide) rfl) rfl b2 ?_
    obtain ⟨g3, hg3, h⟩ := d_lt_some h
    refine u_mem (σ2 := (upM σ 9 0 g3)) (by rw [hg3]) ?_
    refine u_aload_n (pc := 22) F dX9_add_22 0 rfl rfl ?_
    refine u_dup (pc := 23) F dX9_add_23 rfl ?_
    refine u_get1 (pc := 24) F dX9_add_24 (hL 9 0 0 (by decide) rfl) ck_9 fl_9_15 rfl (by decide) ?_
    refine u_iconst (v := 1) (pc := 27) F dX9_add_27 (by decide) ?_
    refine u_iadd (pc := 28) F dX9_add_28 ?_
    refine u_put1 (pc := 29) F dX9_add_29 (hL 9 0 0 (by decide) rfl) ck_9 fl_9_15 rfl (by decide) rfl (ty0 := .int) (by decide +kernel) rfl rfl ?_
    obtain ⟨g4, hg4, h⟩ := d_lt_some h
    refine u_mem (σ2 := (upM σ 9 0 g4)) (by rw [hg4]) ?_
    refine u_iconst (v := 1) (pc := 32) F dX9_add_32 (by decide) ?_
    have h1 := Option.some.inj h
    obtain ⟨hj0, hr0⟩ := Prod.mk.inj h1
    subst hj0
    subst hr0
    exact hR _ _ rfl dX9_add_33
  · rw [if_neg c1] at h
    refine u_iconst (v := 0) (pc := 10) F dX9_add_10 (by decide) ?_
    have h1 := Option.some.inj h
    obtain ⟨hj0, hr0⟩ := Prod.mk.inj h1
    subst hj0
    subst hr0
    exact hR _ _ rfl dX9_add_11
/- RollingCodes$Plan.clear -/
def fX4_clear (pl : Grp) : Option (Grp) :=
    d_lt (wr pl 0 0 (0 : Int32)) fun g1 => d_lt (wr g1 0 1 (0 : Int32)) fun g2 => d_lt (wr g2 0 2 (0 : Int32)) fun g3 => d_lt (wr g3 0 3 (0 : Int32)) fun g4 => d_lt (wr g4 0 4 (0 : Int32)) fun g5 => some g5
set_option maxHeartbeats 4000000 in
set_option maxRecDepth 100000 in
theorem c_X4_clear (G : G0) (hL : In G) (k : Nat) (h_k : k < 2) (σ : Mem) (pl : Grp) (e_pl : σ 4 k = pl) (pl' : Grp) (h : fX4_clear pl = some pl') :
    CV G yX4_clear cX4_clear 1 1 [.ref (adr G (4, k, 0))] σ (upM σ 4 k (pl')) := by
  refine CV.of (by decide +kernel) (Nat.le_of_ble_eq_true rfl) (fun Y hY F hR => ?_)
  unfold fX4_clear at h
  have F : Fx Y G cX4_clear RX4 1 := F
  refine u_mem (σ2 := (upM σ 4 k pl)) (by rw [← e_pl]; simp only [upM_self]) ?_
  refine u_lv (lv' := [(0, .ref (adr G (4, k, 0)))]) [0] rfl ?_
  refine u_aload_n (pc := 0) F dX4_clear_0 0 rfl rfl ?_
  refine u_iconst (v := 0) (pc := 1) F dX4_clear_1 (by decide) ?_
  refine u_put1 (pc := 2) F dX4_clear_2 (hL 4 k 0 h_k rfl) ck_4 fl_4_36 rfl (by decide) rfl (ty0 := .boolean) (by decide +kernel) rfl rfl ?_
  obtain ⟨g1, hg1, h⟩ := d_lt_some h
  refine u_mem (σ2 := (upM σ 4 k g1)) (by rw [hg1]) ?_
  refine u_aload_n (pc := 5) F dX4_clear_5 0 rfl rfl ?_
  refine u_iconst (v := 0) (pc := 6) F dX4_clear_6 (by decide) ?_
  refine u_put1 (pc := 7) F dX4_clear_7 (hL 4 k 0 h_k rfl) ck_4 fl_4_40 rfl (by decide) rfl (ty0 := .int) (by decide +kernel) rfl rfl ?_
  obtain ⟨g2, hg2, h⟩ := d_lt_some h
  refine u_mem (σ2 := (upM σ 4 k g2)) (by rw [hg2]) ?_
  refine u_aload_n (pc := 10) F dX4_clear_10 0 rfl rfl ?_
  refine u_iconst (v := 0) (pc := 11) F dX4_clear_11 (by decide) ?_
  refine u_put1 (pc := 12) F dX4_clear_12 (hL 4 k 0 h_k rfl) ck_4 fl_4_44 rfl (by decide) rfl (ty0 := .int) (by decide +kernel) rfl rfl ?_
  obtain ⟨g3, hg3, h⟩ := d_lt_some h
  refine u_mem (σ2 := (upM σ 4 k g3)) (by rw [hg3]) ?_
  refine u_aload_n (pc := 15) F dX4_clear_15 0 rfl rfl ?_
  refine u_iconst (v := 0) (pc := 16) F dX4_clear_16 (by decide) ?_
  refine u_put1 (pc := 17) F dX4_clear_17 (hL 4 k 0 h_k rfl) ck_4 fl_4_47 rfl (by decide) rfl (ty0 := .int) (by decide +kernel) rfl rfl ?_
  obtain ⟨g4, hg4, h⟩ := d_lt_some h
  refine u_mem (σ2 := (upM σ 4 k g4)) (by rw [hg4]) ?_
  refine u_aload_n (pc := 20) F dX4_clear_20 0 rfl rfl ?_
  refine u_iconst (v := 0) (pc := 21) F dX4_clear_21 (by decide) ?_
  refine u_put1 (pc := 22) F dX4_clear_22 (hL 4 k 0 h_k rfl) ck_4 fl_4_50 rfl (by decide) rfl (ty0 := .int) (by decide +kernel) rfl rfl ?_
  obtain ⟨g5, hg5, h⟩ := d_lt_some h
  refine u_mem (σ2 := (upM σ 4 k g5)) (by rw [hg5]) ?_
  have h1 := Option.some.inj h
  subst h1
  exact hR _ _ dX4_clear_25
/- RollingCodes$Text.letterAt -/
def fX9_letterAt (tx : Grp) (x1 : Int32) : Option (Int32) :=
    if x1 < 0 then (some (-1 : Int32)) else (if x1 < (tx 0 1) then (d_ab x1 240 <| some (tx 1 x1.toNatClampNeg)) else (some (-1 : Int32)))
set_option maxHeartbeats 4000000 in
set_option maxRecDepth 100000 in
theorem c_X9_letterAt (G : G0) (hL : In G) (x1 : Int32) (σ : Mem) (tx : Grp) (e_tx : σ 9 0 = tx) (r : Int32) (h : fX9_letterAt tx x1 = some r) :
    CI G yX9_letterAt cX9_letterAt 2 .int 1 [.ref (adr G (9, 0, 0)), .int x1] σ r σ := by
  refine CI.of (by decide +kernel) (Nat.le_of_ble_eq_true rfl) (fun Y hY F hR => ?_)
  unfold fX9_letterAt at h
  have F : Fx Y G cX9_letterAt RX9 1 := F
  refine u_lv (lv' := [(0, .ref (adr G (9, 0, 0))), (1, .int x1)]) [0, 1] rfl ?_
  refine u_iload_n (pc := 0) F dX9_letterAt_0 1 rfl rfl ?_
  refine u_if_lt (pc := 1) F 21 dX9_letterAt_1 (by decide) (fun c1 => ?_) (fun c1 => ?_)
  · rw [if_pos c1] at h
    refine u_iconst (v := -1) (pc := 21) F dX9_letterAt_21 (by decide) ?_
    have h1 := Option.some.inj h
    subst h1
    exact hR _ _ rfl dX9_letterAt_22
  · rw [if_neg c1] at h
    refine u_iload_n (pc := 4) F dX9_letterAt_4 1 rfl rfl ?_
    refine u_aload_n (pc := 5) F dX9_letterAt_5 0 rfl rfl ?_
    refine u_get (v := tx 0 1) (pc := 6) F dX9_letterAt_6 (hL 9 0 0 (by decide) rfl) ck_9 fl_9_15 rfl (by decide) (congrFun (congrFun (show σ 9 0 = tx from e_tx) 0) 1) ?_
    refine u_icmp_ge (pc := 9) F 21 dX9_letterAt_9 (by decide) (fun c2 => ?_) (fun c2 => ?_)
    · rw [if_neg c2] at h
      refine u_iconst (v := -1) (pc := 21) F dX9_letterAt_21 (by decide) ?_
      have h1 := Option.some.inj h
      subst h1
      exact hR _ _ rfl dX9_letterAt_22
    · rw [if_pos c2] at h
      refine u_aload_n (pc := 12) F dX9_letterAt_12 0 rfl rfl ?_
      refine u_getA (pc := 13) F dX9_letterAt_13 (hL 9 0 0 (by decide) rfl) ck_9 fl_9_9 rfl (by decide) (by decide) ?_
      refine u_iload_n (pc := 16) F dX9_letterAt_16 1 rfl rfl ?_
      obtain ⟨b3, h⟩ := d_ab_some h
      refine u_aldI (v := tx 1 x1.toNatClampNeg) (pc := 17) F dX9_letterAt_17 (hL 9 0 1 (by decide) rfl) rfl b3 (congrFun (congrFun (show σ 9 0 = tx from e_tx) 1) _) ?_
      refine u_goto (pc := 18) F 22 dX9_letterAt_18 (by decide) ?_
      have h1 := Option.some.inj h
      subst h1
      exact hR _ _ rfl dX9_letterAt_22
/- RollingCodes$Reader.skipBlanks -/
def fX5_skipBlanks_0 (tx : Grp) : Nat → Grp → Option (Grp)
  | 0, _ => none
  | fu + 1, rd =>
    if (rd 0 2) < (tx 0 1) then (d_bd (fX9_letterAt tx (rd 0 2)) fun q2 => if q2 = (32 : Int32) then (d_lt (wr rd 0 2 ((rd 0 2) + (1 : Int32))) fun g4 => fX5_skipBlanks_0 tx fu g4) else (some rd)) else (some rd)
def fX5_skipBlanks (rd : Grp) (tx : Grp) : Option (Grp) :=
    fX5_skipBlanks_0 tx 1000 rd
set_option maxHeartbeats 4000000 in
set_option maxRecDepth 100000 in
theorem wX5_skipBlanks_0 (Y : Dy) (G : G0) (hL : In G) (σ : Mem) (tx : Grp) (e_tx : σ 9 0 = tx) (F : Fx Y G cX5_skipBlanks RX5 2) (hY : Y.2.2.2.2.2.2.2.2.2.2.2.1 = 2) (rd' : Grp) (hR : ∀ (pc : Nat) (lv : List (Nat × Value)), decode cX5_skipBlanks pc = .ok (.return_, 1) → U Y G (upM σ 5 0 (rd')) pc lv []) :
    ∀ (fu : Nat) (rd : Grp), fX5_skipBlanks_0 tx fu rd = some rd' → U Y G (upM σ 5 0 rd) 0 [(0, .ref (adr G (5, 0, 0))), (1, .ref (adr G (9, 0, 0)))] [] := by
  intro fu
  induction fu with
  | zero =>
    intro rd h
    rw [fX5_skipBlanks_0] at h
    cases h
  | succ fu ih =>
    intro rd h
    rw [fX5_skipBlanks_0] at h
    refine u_aload_n (pc := 0) F dX5_skipBlanks_0 0 rfl rfl ?_
    refine u_get1 (pc := 1) F dX5_skipBlanks_1 (hL 5 0 0 (by decide) rfl) ck_5 fl_5_25 rfl (by decide) ?_
    refine u_aload_n (pc := 4) F dX5_skipBlanks_4 1 rfl rfl ?_
    refine u_get (v := tx 0 1) (pc := 5) F dX5_skipBlanks_5 (hL 9 0 0 (by decide) rfl) ck_9 fl_5_39 rfl (by decide) (congrFun (congrFun (show (upM σ 5 0 rd) 9 0 = tx from e_tx) 0) 1) ?_
    refine u_icmp_ge (pc := 8) F 37 dX5_skipBlanks_8 (by decide) (fun c1 => ?_) (fun c1 => ?_)
    · rw [if_neg c1] at h
      have h1 := Option.some.inj h
      subst h1
      exact hR _ _ dX5_skipBlanks_37
    · rw [if_pos c1] at h
      refine u_aload_n (pc := 11) F dX5_skipBlanks_11 1 rfl rfl ?_
      refine u_aload_n (pc := 12) F dX5_skipBlanks_12 0 rfl rfl ?_
      refine u_get1 (pc := 13) F dX5_skipBlanks_13 (hL 5 0 0 (by decide) rfl) ck_5 fl_5_25 rfl (by decide) ?_
      obtain ⟨q2, hq2, h⟩ := d_bd_some h
      refine u_calli (pc := 16) F (As := [.int (rd 0 2)]) (c_X9_letterAt G hL (rd 0 2) (upM σ 5 0 rd) tx ((show (upM σ 5 0 rd) 9 0 = tx from e_tx)) q2 hq2) yv_X9_letterAt ml_5_47 (hL 9 0 0 (by decide) rfl) rfl (by decide) rfl rfl (Nat.le_of_ble_eq_true rfl) dX5_skipBlanks_16 ?_
      refine u_bipush (v := 32) (pc := 19) F dX5_skipBlanks_19 (by decide) ?_
      refine u_icmp_ne (pc := 21) F 37 dX5_skipBlanks_21 (by decide) (fun c3 => ?_) (fun c3 => ?_)
      · rw [if_neg c3] at h
        have h1 := Option.some.inj h
        subst h1
        exact hR _ _ dX5_skipBlanks_37
      · rw [if_pos c3] at h
        refine u_aload_n (pc := 24) F dX5_skipBlanks_24 0 rfl rfl ?_
        refine u_dup (pc := 25) F dX5_skipBlanks_25 rfl ?_
        refine u_get1 (pc := 26) F dX5_skipBlanks_26 (hL 5 0 0 (by decide) rfl) ck_5 fl_5_25 rfl (by decide) ?_
        refine u_iconst (v := 1) (pc := 29) F dX5_skipBlanks_29 (by decide) ?_
        refine u_iadd (pc := 30) F dX5_skipBlanks_30 ?_
        refine u_put1 (pc := 31) F dX5_skipBlanks_31 (hL 5 0 0 (by decide) rfl) ck_5 fl_5_25 rfl (by decide) rfl (ty0 := .int) (by decide +kernel) rfl rfl ?_
        obtain ⟨g4, hg4, h⟩ := d_lt_some h
        refine u_mem (σ2 := (upM σ 5 0 g4)) (by rw [hg4]) ?_
        refine u_goto (pc := 34) F 0 dX5_skipBlanks_34 (by decide) ?_
        exact ih g4 h
set_option maxHeartbeats 4000000 in
set_option maxRecDepth 100000 in
theorem c_X5_skipBlanks (G : G0) (hL : In G) (σ : Mem) (rd : Grp) (tx : Grp) (e_rd : σ 5 0 = rd) (e_tx : σ 9 0 = tx) (rd' : Grp) (h : fX5_skipBlanks rd tx = some rd') :
    CV G yX5_skipBlanks cX5_skipBlanks 2 2 [.ref (adr G (5, 0, 0)), .ref (adr G (9, 0, 0))] σ (upM σ 5 0 (rd')) := by
  refine CV.of (by decide +kernel) (Nat.le_of_ble_eq_true rfl) (fun Y hY F hR => ?_)
  unfold fX5_skipBlanks at h
  have F : Fx Y G cX5_skipBlanks RX5 2 := F
  refine u_mem (σ2 := (upM σ 5 0 rd)) (by rw [← e_rd]; simp only [upM_self]) ?_
  refine u_lv (lv' := [(0, .ref (adr G (5, 0, 0))), (1, .ref (adr G (9, 0, 0)))]) [0, 1] rfl ?_
  exact wX5_skipBlanks_0 Y G hL σ tx e_tx F hY rd' hR 1000 rd h
/- RollingCodes$Reader.faultOfWord -/
def fX5_faultOfWord_87 (df : Grp)  (s0 : Int32) : Option (Int32) :=
    if s0 = 0 then (some (0 : Int32)) else (some (3 : Int32))
def fX5_faultOfWord_82 (df : Grp)   : Option (Int32) :=
    fX5_faultOfWord_87 df (1 : Int32)
def fX5_faultOfWord_86 (df : Grp)   : Option (Int32) :=
    fX5_faultOfWord_87 df (0 : Int32)
def fX5_faultOfWord_65 (df : Grp)  (x1 : Int32) : Option (Int32) :=
    if x1 = (102 : Int32) then (if (df 0 4) < (5 : Int32) then (fX5_faultOfWord_86 df) else (fX5_faultOfWord_82 df)) else (fX5_faultOfWord_86 df)
def fX5_faultOfWord_20 (df : Grp)  (x1 : Int32) : Option (Int32) :=
    if (df 0 0) = 0 then (if x1 = (101 : Int32) then (some (0 : Int32)) else (some (1 : Int32))) else (if x1 = (101 : Int32) then (fX5_faultOfWord_82 df) else (if x1 = (103 : Int32) then (if (df 0 3) < (4 : Int32) then (fX5_faultOfWord_65 df x1) else (fX5_faultOfWord_82 df)) else (fX5_faultOfWord_65 df x1)))
def fX5_faultOfWord (df : Grp) (x1 : Int32) : Option (Int32) :=
    if x1 = (101 : Int32) then (fX5_faultOfWord_20 df x1) else (if x1 = (103 : Int32) then (fX5_faultOfWord_20 df x1) else (if x1 = (102 : Int32) then (fX5_faultOfWord_20 df x1) else (some (1 : Int32))))
set_option maxHeartbeats 4000000 in
set_option maxRecDepth 100000 in
theorem wX5_faultOfWord_87 (Y : Dy) (G : G0) (hL : In G) (σ : Mem) (df : Grp) (e_df : σ 4 1 = df) (F : Fx Y G cX5_faultOfWord RX5 1) (hY : Y.2.2.2.2.2.2.2.2.2.2.2.1 = 3) (r : Int32) (hR : ∀ (pc : Nat) (lv : List (Nat × Value)), narrow .int (.int r) = .int r → decode cX5_faultOfWord pc = .ok (.ireturn, 1) → U Y G σ pc lv [.int r]) :
    ∀ (s0 : Int32), fX5_faultOfWord_87 df s0 = some r → U Y G σ 87 [] [.int s0] := by
  intro s0 h
  unfold fX5_faultOfWord_87 at h
  refine u_istore_n (lv' := [(2, .int s0)]) (pc := 87) F dX5_faultOfWord_87 rfl hY (by decide) rfl ?_
  refine u_iload_n (pc := 88) F dX5_faultOfWord_88 0 rfl rfl ?_
  refine u_if_eq (pc := 89) F 96 dX5_faultOfWord_89 (by decide) (fun c4 => ?_) (fun c4 => ?_)
  · rw [if_pos c4] at h
    refine u_iconst (v := 0) (pc := 96) F dX5_faultOfWord_96 (by decide) ?_
    have h1 := Option.some.inj h
    subst h1
    exact hR _ _ rfl dX5_faultOfWord_97
  · rw [if_neg c4] at h
    refine u_iconst (v := 3) (pc := 92) F dX5_faultOfWord_92 (by decide) ?_
    refine u_goto (pc := 93) F 97 dX5_faultOfWord_93 (by decide) ?_
    have h1 := Option.some.inj h
    subst h1
    exact hR _ _ rfl dX5_faultOfWord_97
set_option maxHeartbeats 4000000 in
set_option maxRecDepth 100000 in
theorem wX5_faultOfWord_82 (Y : Dy) (G : G0) (hL : In G) (σ : Mem) (df : Grp) (e_df : σ 4 1 = df) (F : Fx Y G cX5_faultOfWord RX5 1) (hY : Y.2.2.2.2.2.2.2.2.2.2.2.1 = 3) (r : Int32) (hR : ∀ (pc : Nat) (lv : List (Nat × Value)), narrow .int (.int r) = .int r → decode cX5_faultOfWord pc = .ok (.ireturn, 1) → U Y G σ pc lv [.int r]) :
    fX5_faultOfWord_82 df = some r → U Y G σ 82 [] [] := by
  intro h
  unfold fX5_faultOfWord_82 at h
  refine u_iconst (v := 1) (pc := 82) F dX5_faultOfWord_82 (by decide) ?_
  refine u_goto (pc := 83) F 87 dX5_faultOfWord_83 (by decide) ?_
  exact wX5_faultOfWord_87 Y G hL σ df e_df F hY r hR (1 : Int32) h
set_option maxHeartbeats 4000000 in
set_option maxRecDepth 100000 in
theorem wX5_faultOfWord_86 (Y : Dy) (G : G0) (hL : In G) (σ : Mem) (df : Grp) (e_df : σ 4 1 = df) (F : Fx Y G cX5_faultOfWord RX5 1) (hY : Y.2.2.2.2.2.2.2.2.2.2.2.1 = 3) (r : Int32) (hR : ∀ (pc : Nat) (lv : List (Nat × Value)), narrow .int (.int r) = .int r → decode cX5_faultOfWord pc = .ok (.ireturn, 1) → U Y G σ pc lv [.int r]) :
    fX5_faultOfWord_86 df = some r → U Y G σ 86 [] [] := by
  intro h
  unfold fX5_faultOfWord_86 at h
  refine u_iconst (v := 0) (pc := 86) F dX5_faultOfWord_86 (by decide) ?_
  exact wX5_faultOfWord_87 Y G hL σ df e_df F hY r hR (0 : Int32) h
set_option maxHeartbeats 4000000 in
set_option maxRecDepth 100000 in
theorem wX5_faultOfWord_65 (Y : Dy) (G : G0) (hL : In G) (σ : Mem) (df : Grp) (e_df : σ 4 1 = df) (F : Fx Y G cX5_faultOfWord RX5 1) (hY : Y.2.2.2.2.2.2.2.2.2.2.2.1 = 3) (r : Int32) (hR : ∀ (pc : Nat) (lv : List (Nat × Value)), narrow .int (.int r) = .int r → decode cX5_faultOfWord pc = .ok (.ireturn, 1) → U Y G σ pc lv [.int r]) :
    ∀ (x1 : Int32), fX5_faultOfWord_65 df x1 = some r → U Y G σ 65 [(0, .ref (adr G (5, 0, 0))), (1, .int x1)] [] := by
  intro x1 h
  unfold fX5_faultOfWord_65 at h
  refine u_iload_n (pc := 65) F dX5_faultOfWord_65 1 rfl rfl ?_
  refine u_bipush (v := 102) (pc := 66) F dX5_faultOfWord_66 (by decide) ?_
  refine u_icmp_ne (pc := 68) F 86 dX5_faultOfWord_68 (by decide) (fun c6 => ?_) (fun c6 => ?_)
  · rw [if_neg c6] at h
    refine u_lv (lv' := []) [] rfl ?_
    exact wX5_faultOfWord_86 Y G hL σ df e_df F hY r hR h
  · rw [if_pos c6] at h
    refine u_aload_n (pc := 71) F dX5_faultOfWord_71 0 rfl rfl ?_
    refine u_getO (pc := 72) F dX5_faultOfWord_72 (hL 5 0 0 (by decide) rfl) ck_5 fl_5_12 rfl (by decide) rfl ?_
    refine u_get (v := df 0 4) (pc := 75) F dX5_faultOfWord_75 (hL 4 1 0 (by decide) rfl) ck_4 fl_5_94 rfl (by decide) (congrFun (congrFun (show σ 4 1 = df from e_df) 0) 4) ?_
    refine u_iconst (v := 5) (pc := 78) F dX5_faultOfWord_78 (by decide) ?_
    refine u_icmp_lt (pc := 79) F 86 dX5_faultOfWord_79 (by decide) (fun c7 => ?_) (fun c7 => ?_)
    · rw [if_pos c7] at h
      refine u_lv (lv' := []) [] rfl ?_
      exact wX5_faultOfWord_86 Y G hL σ df e_df F hY r hR h
    · rw [if_neg c7] at h
      refine u_lv (lv' := []) [] rfl ?_
      exact wX5_faultOfWord_82 Y G hL σ df e_df F hY r hR h
set_option maxHeartbeats 4000000 in
set_option maxRecDepth 100000 in
theorem wX5_faultOfWord_20 (Y : Dy) (G : G0) (hL : In G) (σ : Mem) (df : Grp) (e_df : σ 4 1 = df) (F : Fx Y G cX5_faultOfWord RX5 1) (hY : Y.2.2.2.2.2.2.2.2.2.2.2.1 = 3) (r : Int32) (hR : ∀ (pc : Nat) (lv : List (Nat × Value)), narrow .int (.int r) = .int r → decode cX5_faultOfWord pc = .ok (.ireturn, 1) → U Y G σ pc lv [.int r]) :
    ∀ (x1 : Int32), fX5_faultOfWord_20 df x1 = some r → U Y G σ 20 [(0, .ref (adr G (5, 0, 0))), (1, .int x1)] [] := by
  intro x1 h
  unfold fX5_faultOfWord_20 at h
  refine u_aload_n (pc := 20) F dX5_faultOfWord_20 0 rfl rfl ?_
  refine u_getO (pc := 21) F dX5_faultOfWord_21 (hL 5 0 0 (by decide) rfl) ck_5 fl_5_12 rfl (by decide) rfl ?_
  refine u_get (v := df 0 0) (pc := 24) F dX5_faultOfWord_24 (hL 4 1 0 (by decide) rfl) ck_4 fl_5_87 rfl (by decide) (congrFun (congrFun (show σ 4 1 = df from e_df) 0) 0) ?_
  refine u_if_ne (pc := 27) F 42 dX5_faultOfWord_27 (by decide) (fun c2 => ?_) (fun c2 => ?_)
  · rw [if_neg c2] at h
    refine u_iload_n (pc := 42) F dX5_faultOfWord_42 1 rfl rfl ?_
    refine u_bipush (v := 101) (pc := 43) F dX5_faultOfWord_43 (by decide) ?_
    refine u_icmp_eq (pc := 45) F 82 dX5_faultOfWord_45 (by decide) (fun c3 => ?_) (fun c3 => ?_)
    · rw [if_pos c3] at h
      refine u_lv (lv' := []) [] rfl ?_
      exact wX5_faultOfWord_82 Y G hL σ df e_df F hY r hR h
    · rw [if_neg c3] at h
      refine u_iload_n (pc := 48) F dX5_faultOfWord_48 1 rfl rfl ?_
      refine u_bipush (v := 103) (pc := 49) F dX5_faultOfWord_49 (by decide) ?_
      refine u_icmp_ne (pc := 51) F 65 dX5_faultOfWord_51 (by decide) (fun c5 => ?_) (fun c5 => ?_)
      · rw [if_neg c5] at h
        exact wX5_faultOfWord_65 Y G hL σ df e_df F hY r hR x1 h
      · rw [if_pos c5] at h
        refine u_aload_n (pc := 54) F dX5_faultOfWord_54 0 rfl rfl ?_
        refine u_getO (pc := 55) F dX5_faultOfWord_55 (hL 5 0 0 (by decide) rfl) ck_5 fl_5_12 rfl (by decide) rfl ?_
        refine u_get (v := df 0 3) (pc := 58) F dX5_faultOfWord_58 (hL 4 1 0 (by decide) rfl) ck_4 fl_5_91 rfl (by decide) (congrFun (congrFun (show σ 4 1 = df from e_df) 0) 3) ?_
        refine u_iconst (v := 4) (pc := 61) F dX5_faultOfWord_61 (by decide) ?_
        refine u_icmp_ge (pc := 62) F 82 dX5_faultOfWord_62 (by decide) (fun c8 => ?_) (fun c8 => ?_)
        · rw [if_neg c8] at h
          refine u_lv (lv' := []) [] rfl ?_
          exact wX5_faultOfWord_82 Y G hL σ df e_df F hY r hR h
        · rw [if_pos c8] at h
          exact wX5_faultOfWord_65 Y G hL σ df e_df F hY r hR x1 h
  · rw [if_pos c2] at h
    refine u_iload_n (pc := 30) F dX5_faultOfWord_30 1 rfl rfl ?_
    refine u_bipush (v := 101) (pc := 31) F dX5_faultOfWord_31 (by decide) ?_
    refine u_icmp_ne (pc := 33) F 40 dX5_faultOfWord_33 (by decide) (fun c9 => ?_) (fun c9 => ?_)
    · rw [if_neg c9] at h
      refine u_iconst (v := 1) (pc := 40) F dX5_faultOfWord_40 (by decide) ?_
      have h1 := Option.some.inj h
      subst h1
      exact hR _ _ rfl dX5_faultOfWord_41
    · rw [if_pos c9] at h
      refine u_iconst (v := 0) (pc := 36) F dX5_faultOfWord_36 (by decide) ?_
      refine u_goto (pc := 37) F 41 dX5_faultOfWord_37 (by decide) ?_
      have h1 := Option.some.inj h
      subst h1
      exact hR _ _ rfl dX5_faultOfWord_41
set_option maxHeartbeats 4000000 in
set_option maxRecDepth 100000 in
theorem c_X5_faultOfWord (G : G0) (hL : In G) (x1 : Int32) (σ : Mem) (df : Grp) (e_df : σ 4 1 = df) (r : Int32) (h : fX5_faultOfWord df x1 = some r) :
    CI G yX5_faultOfWord cX5_faultOfWord 3 .int 1 [.ref (adr G (5, 0, 0)), .int x1] σ r σ := by
  refine CI.of (by decide +kernel) (Nat.le_of_ble_eq_true rfl) (fun Y hY F hR => ?_)
  unfold fX5_faultOfWord at h
  have F : Fx Y G cX5_faultOfWord RX5 1 := F
  refine u_lv (lv' := [(0, .ref (adr G (5, 0, 0))), (1, .int x1)]) [0, 1] rfl ?_
  refine u_iload_n (pc := 0) F dX5_faultOfWord_0 1 rfl rfl ?_
  refine u_bipush (v := 101) (pc := 1) F dX5_faultOfWord_1 (by decide) ?_
  refine u_icmp_eq (pc := 3) F 20 dX5_faultOfWord_3 (by decide) (fun c1 => ?_) (fun c1 => ?_)
  · rw [if_pos c1] at h
    exact wX5_faultOfWord_20 Y G hL σ df e_df F hY r hR x1 h
  · rw [if_neg c1] at h
    refine u_iload_n (pc := 6) F dX5_faultOfWord_6 1 rfl rfl ?_
    refine u_bipush (v := 103) (pc := 7) F dX5_faultOfWord_7 (by decide) ?_
    refine u_icmp_eq (pc := 9) F 20 dX5_faultOfWord_9 (by decide) (fun c10 => ?_) (fun c10 => ?_)
    · rw [if_pos c10] at h
      exact wX5_faultOfWord_20 Y G hL σ df e_df F hY r hR x1 h
    · rw [if_neg c10] at h
      refine u_iload_n (pc := 12) F dX5_faultOfWord_12 1 rfl rfl ?_
      refine u_bipush (v := 102) (pc := 13) F dX5_faultOfWord_13 (by decide) ?_
      refine u_icmp_eq (pc := 15) F 20 dX5_faultOfWord_15 (by decide) (fun c11 => ?_) (fun c11 => ?_)
      · rw [if_pos c11] at h
        exact wX5_faultOfWord_20 Y G hL σ df e_df F hY r hR x1 h
      · rw [if_neg c11] at h
        refine u_iconst (v := 1) (pc := 18) F dX5_faultOfWord_18 (by decide) ?_
        have h1 := Option.some.inj h
        subst h1
        exact hR _ _ rfl dX5_faultOfWord_19
/- RollingCodes$Reader.fail -/
def fX5_fail (rd : Grp) (x1 : Int32) (x2 : Int32) : Option (Grp) :=
    d_lt (wr rd 0 3 x1) fun g1 => d_lt (wr g1 0 4 x2) fun g2 => some g2
set_option maxHeartbeats 4000000 in
set_option maxRecDepth 100000 in
theorem c_X5_fail (G : G0) (hL : In G) (x1 : Int32) (x2 : Int32) (σ : Mem) (rd : Grp) (e_rd : σ 5 0 = rd) (rd' : Grp) (h : fX5_fail rd x1 x2 = some rd') :
    CV G yX5_fail cX5_fail 3 1 [.ref (adr G (5, 0, 0)), .int x1, .int x2] σ (upM σ 5 0 (rd')) := by
  refine CV.of (by decide +kernel) (Nat.le_of_ble_eq_true rfl) (fun Y hY F hR => ?_)
  unfold fX5_fail at h
  have F : Fx Y G cX5_fail RX5 1 := F
  refine u_mem (σ2 := (upM σ 5 0 rd)) (by rw [← e_rd]; simp only [upM_self]) ?_
  refine u_lv (lv' := [(0, .ref (adr G (5, 0, 0))), (1, .int x1), (2, .int x2)]) [0, 1, 2] rfl ?_
  refine u_aload_n (pc := 0) F dX5_fail_0 0 rfl rfl ?_
  refine u_iload_n (pc := 1) F dX5_fail_1 1 rfl rfl ?_
  refine u_put1 (pc := 2) F dX5_fail_2 (hL 5 0 0 (by decide) rfl) ck_5 fl_5_29 rfl (by decide) rfl (ty0 := .int) (by decide +kernel) rfl rfl ?_
  obtain ⟨g1, hg1, h⟩ := d_lt_some h
  refine u_mem (σ2 := (upM σ 5 0 g1)) (by rw [hg1]) ?_
  refine u_aload_n (pc := 5) F dX5_fail_5 0 rfl rfl ?_
  refine u_iload_n (pc := 6) F dX5_fail_6 2 rfl rfl ?_
  refine u_put1 (pc := 7) F dX5_fail_7 (hL 5 0 0 (by decide) rfl) ck_5 fl_5_32 rfl (by decide) rfl (ty0 := .int) (by decide +kernel) rfl rfl ?_
  obtain ⟨g2, hg2, h⟩ := d_lt_some h
  refine u_mem (σ2 := (upM σ 5 0 g2)) (by rw [hg2]) ?_
  have h1 := Option.some.inj h
  subst h1
  exact hR _ _ dX5_fail_10
/- RollingCodes$Reader.isFigure -/
def fX5_isFigure (x0 : Int32) : Option (Int32) :=
    if x0 < (48 : Int32) then (some (0 : Int32)) else (if x0 ≤ (57 : Int32) then (some (1 : Int32)) else (some (0 : Int32)))
set_option maxHeartbeats 4000000 in
set_option maxRecDepth 100000 in
theorem c_X5_isFigure (G : G0) (hL : In G) (x0 : Int32) (σ : Mem) (r : Int32) (h : fX5_isFigure x0 = some r) :
    CI G yX5_isFigure cX5_isFigure 1 .boolean 1 [.int x0] σ r σ := by
  refine CI.of (by decide +kernel) (Nat.le_of_ble_eq_true rfl) (fun Y hY F hR => ?_)
  unfold fX5_isFigure at h
  have F : Fx Y G cX5_isFigure RX5 1 := F
  refine u_lv (lv' := [(0, .int x0)]) [0] rfl ?_
  refine u_iload_n (pc := 0) F dX5_isFigure_0 0 rfl rfl ?_
  refine u_bipush (v := 48) (pc := 1) F dX5_isFigure_1 (by decide) ?_
  refine u_icmp_lt (pc := 3) F 16 dX5_isFigure_3 (by decide) (fun c1 => ?_) (fun c1 => ?_)
  · rw [if_pos c1] at h
    refine u_iconst (v := 0) (pc := 16) F dX5_isFigure_16 (by decide) ?_
    have h1 := Option.some.inj h
    subst h1
    exact hR _ _ rfl dX5_isFigure_17
  · rw [if_neg c1] at h
    refine u_iload_n (pc := 6) F dX5_isFigure_6 0 rfl rfl ?_
    refine u_bipush (v := 57) (pc := 7) F dX5_isFigure_7 (by decide) ?_
    refine u_icmp_gt (pc := 9) F 16 dX5_isFigure_9 (by decide) (fun c2 => ?_) (fun c2 => ?_)
    · rw [if_neg c2] at h
      refine u_iconst (v := 0) (pc := 16) F dX5_isFigure_16 (by decide) ?_
      have h1 := Option.some.inj h
      subst h1
      exact hR _ _ rfl dX5_isFigure_17
    · rw [if_pos c2] at h
      refine u_iconst (v := 1) (pc := 12) F dX5_isFigure_12 (by decide) ?_
      refine u_goto (pc := 13) F 17 dX5_isFigure_13 (by decide) ?_
      have h1 := Option.some.inj h
      subst h1
      exact hR _ _ rfl dX5_isFigure_17
/- RollingCodes$Reader.readNumber -/
def fX5_readNumber_113 (tx : Grp) (rd : Grp) (x4 : Int32) (x5 : Int32) : Option (Int32 × Grp) :=
    d_bd (fX5_fail rd (2 : Int32) x4) fun q7 => some (x5, q7)
def fX5_readNumber_71 (tx : Grp) (rd : Grp) (x2 : Int32) (x3 : Int32) (x4 : Int32) (x5 : Int32) : Option (Int32 × Grp) :=
    d_lt ((rd 0 2) - x4) fun v4 => if v4 = 0 then (d_bd (fX5_fail rd (1 : Int32) x4) fun q10 => some (x5, q10)) else (if v4 ≤ (3 : Int32) then (if x5 < x2 then (fX5_readNumber_113 tx rd x4 x5) else (if x5 ≤ x3 then (some (x5, rd)) else (fX5_readNumber_113 tx rd x4 x5))) else (fX5_readNumber_113 tx rd x4 x5))
def fX5_readNumber_14 (tx : Grp) : Nat → Grp → Int32 → Int32 → Int32 → Int32 → Option (Int32 × Grp)
  | 0, _, _, _, _, _ => none
  | fu + 1, rd, x2, x3, x4, x5 =>
    if (rd 0 2) < (tx 0 1) then (d_bd (fX9_letterAt tx (rd 0 2)) fun q11 => d_bd (fX5_isFigure q11) fun q12 => if q12 = 0 then (fX5_readNumber_71 tx rd x2 x3 x4 x5) else (d_bd (fX9_letterAt tx (rd 0 2)) fun q14 => d_lt (((x5 * (10 : Int32)) + q14) - (48 : Int32)) fun v15 => d_lt (wr rd 0 2 ((rd 0 2) + (1 : Int32))) fun g16 => fX5_readNumber_14 tx fu g16 x2 x3 x4 v15)) else (fX5_readNumber_71 tx rd x2 x3 x4 x5)
def fX5_readNumber (rd : Grp) (tx : Grp) (x2 : Int32) (x3 : Int32) : Option (Int32 × Grp) :=
    d_bd (fX5_skipBlanks rd tx) fun q1 => d_lt (q1 0 2) fun v2 => fX5_readNumber_14 tx 1000 q1 x2 x3 v2 (0 : Int32)
set_option maxHeartbeats 4000000 in
set_option maxRecDepth 100000 in
theorem wX5_readNumber_113 (Y : Dy) (G : G0) (hL : In G) (σ : Mem) (tx : Grp) (e_tx : σ 9 0 = tx) (F : Fx Y G cX5_readNumber RX5 3) (hY : Y.2.2.2.2.2.2.2.2.2.2.2.1 = 7) (r : Int32) (rd' : Grp) (hR : ∀ (pc : Nat) (lv : List (Nat × Value)), narrow .int (.int r) = .int r → decode cX5_readNumber pc = .ok (.ireturn, 1) → U Y G (upM σ 5 0 (rd')) pc lv [.int r]) :
    ∀ (rd : Grp) (x4 : Int32) (x5 : Int32), fX5_readNumber_113 tx rd x4 x5 = some (r, rd') → U Y G (upM σ 5 0 rd) 113 [(0, .ref (adr G (5, 0, 0))), (4, .int x4), (5, .int x5)] [] := by
  intro rd x4 x5 h
  unfold fX5_readNumber_113 at h
  refine u_aload_n (pc := 113) F dX5_readNumber_113 0 rfl rfl ?_
  refine u_iconst (v := 2) (pc := 114) F dX5_readNumber_114 (by decide) ?_
  refine u_iload (pc := 115) F dX5_readNumber_115 1 rfl ?_
  obtain ⟨q7, hq7, h⟩ := d_bd_some h
  refine u_callv (pc := 117) F (As := [.int (2 : Int32), .int x4]) (c_X5_fail G hL (2 : Int32) x4 (upM σ 5 0 rd) rd (upM_same _ _ _ _) q7 hq7) yv_X5_fail ml_5_54 (hL 5 0 0 (by decide) rfl) rfl (by decide) rfl rfl (Nat.le_of_ble_eq_true rfl) dX5_readNumber_117 ?_
  refine u_mem (σ2 := (upM σ 5 0 q7)) (by first | (rw [upM_upM]; done) | (rw [upM_mid _ _ _ _ (by decide)]; done) | (rw [upM_mid _ _ _ _ (by decide), upM_upM]; done) | (rw [upM_mid _ _ _ _ (by decide), upM_mid _ _ _ _ (by decide)]; done)) ?_
  refine u_iload (pc := 120) F dX5_readNumber_120 2 rfl ?_
  have h1 := Option.some.inj h
  obtain ⟨hj0, hr0⟩ := Prod.mk.inj h1
  subst hj0
  subst hr0
  exact hR _ _ rfl dX5_readNumber_122
set_option maxHeartbeats 4000000 in
set_option maxRecDepth 100000 in
theorem wX5_readNumber_71 (Y : Dy) (G : G0) (hL : In G) (σ : Mem) (tx : Grp) (e_tx : σ 9 0 = tx) (F : Fx Y G cX5_readNumber RX5 3) (hY : Y.2.2.2.2.2.2.2.2.2.2.2.1 = 7) (r : Int32) (rd' : Grp) (hR : ∀ (pc : Nat) (lv : List (Nat × Value)), narrow .int (.int r) = .int r → decode cX5_readNumber pc = .ok (.ireturn, 1) → U Y G (upM σ 5 0 (rd')) pc lv [.int r]) :
    ∀ (rd : Grp) (x2 : Int32) (x3 : Int32) (x4 : Int32) (x5 : Int32), fX5_readNumber_71 tx rd x2 x3 x4 x5 = some (r, rd') → U Y G (upM σ 5 0 rd) 71 [(0, .ref (adr G (5, 0, 0))), (2, .int x2), (3, .int x3), (4, .int x4), (5, .int x5)] [] := by
  intro rd x2 x3 x4 x5 h
  unfold fX5_readNumber_71 at h
  refine u_aload_n (pc := 71) F dX5_readNumber_71 0 rfl rfl ?_
  refine u_get1 (pc := 72) F dX5_readNumber_72 (hL 5 0 0 (by decide) rfl) ck_5 fl_5_25 rfl (by decide) ?_
  refine u_iload (pc := 75) F dX5_readNumber_75 3 rfl ?_
  refine u_isub (pc := 77) F dX5_readNumber_77 ?_
  obtain ⟨v4, hv4, h⟩ := d_lt_some h
  refine u_topi hv4 ?_
  refine u_istore (lv' := [(6, .int v4), (0, .ref (adr G (5, 0, 0))), (2, .int x2), (3, .int x3), (4, .int x4), (5, .int x5)]) (pc := 78) F dX5_readNumber_78 hY (by decide) rfl ?_
  refine u_iload (pc := 80) F dX5_readNumber_80 0 rfl ?_
  refine u_if_ne (pc := 82) F 95 dX5_readNumber_82 (by decide) (fun c5 => ?_) (fun c5 => ?_)
  · rw [if_neg c5] at h
    refine u_iload (pc := 95) F dX5_readNumber_95 0 rfl ?_
    refine u_iconst (v := 3) (pc := 97) F dX5_readNumber_97 (by decide) ?_
    refine u_icmp_gt (pc := 98) F 113 dX5_readNumber_98 (by decide) (fun c6 => ?_) (fun c6 => ?_)
    · rw [if_neg c6] at h
      refine u_lv (lv' := [(0, .ref (adr G (5, 0, 0))), (4, .int x4), (5, .int x5)]) [1, 4, 5] rfl ?_
      exact wX5_readNumber_113 Y G hL σ tx e_tx F hY r rd' hR rd x4 x5 h
    · rw [if_pos c6] at h
      refine u_iload (pc := 101) F dX5_readNumber_101 5 rfl ?_
      refine u_iload_n (pc := 103) F dX5_readNumber_103 2 rfl rfl ?_
      refine u_icmp_lt (pc := 104) F 113 dX5_readNumber_104 (by decide) (fun c8 => ?_) (fun c8 => ?_)
      · rw [if_pos c8] at h
        refine u_lv (lv' := [(0, .ref (adr G (5, 0, 0))), (4, .int x4), (5, .int x5)]) [1, 4, 5] rfl ?_
        exact wX5_readNumber_113 Y G hL σ tx e_tx F hY r rd' hR rd x4 x5 h
      · rw [if_neg c8] at h
        refine u_iload (pc := 107) F dX5_readNumber_107 5 rfl ?_
        refine u_iload_n (pc := 109) F dX5_readNumber_109 3 rfl rfl ?_
        refine u_icmp_le (pc := 110) F 120 dX5_readNumber_110 (by decide) (fun c9 => ?_) (fun c9 => ?_)
        · rw [if_pos c9] at h
          refine u_iload (pc := 120) F dX5_readNumber_120 5 rfl ?_
          have h1 := Option.some.inj h
          obtain ⟨hj0, hr0⟩ := Prod.mk.inj h1
          subst hj0
          subst hr0
          exact hR _ _ rfl dX5_readNumber_122
        · rw [if_neg c9] at h
          refine u_lv (lv' := [(0, .ref (adr G (5, 0, 0))), (4, .int x4), (5, .int x5)]) [1, 4, 5] rfl ?_
          exact wX5_readNumber_113 Y G hL σ tx e_tx F hY r rd' hR rd x4 x5 h
  · rw [if_pos c5] at h
    refine u_aload_n (pc := 85) F dX5_readNumber_85 1 rfl rfl ?_
    refine u_iconst (v := 1) (pc := 86) F dX5_readNumber_86 (by decide) ?_
    refine u_iload (pc := 87) F dX5_readNumber_87 4 rfl ?_
    obtain ⟨q10, hq10, h⟩ := d_bd_some h
    refine u_callv (pc := 89) F (As := [.int (1 : Int32), .int x4]) (c_X5_fail G hL (1 : Int32) x4 (upM σ 5 0 rd) rd (upM_same _ _ _ _) q10 hq10) yv_X5_fail ml_5_54 (hL 5 0 0 (by decide) rfl) rfl (by decide) rfl rfl (Nat.le_of_ble_eq_true rfl) dX5_readNumber_89 ?_
    refine u_mem (σ2 := (upM σ 5 0 q10)) (by first | (rw [upM_upM]; done) | (rw [upM_mid _ _ _ _ (by decide)]; done) | (rw [upM_mid _ _ _ _ (by decide), upM_upM]; done) | (rw [upM_mid _ _ _ _ (by decide), upM_mid _ _ _ _ (by decide)]; done)) ?_
    refine u_goto (pc := 92) F 120 dX5_readNumber_92 (by decide) ?_
    refine u_iload (pc := 120) F dX5_readNumber_120 5 rfl ?_
    have h1 := Option.some.inj h
    obtain ⟨hj0, hr0⟩ := Prod.mk.inj h1
    subst hj0
    subst hr0
    exact hR _ _ rfl dX5_readNumber_122
set_option maxHeartbeats 4000000 in
set_option maxRecDepth 100000 in
theorem wX5_readNumber_14 (Y : Dy) (G : G0) (hL : In G) (σ : Mem) (tx : Grp) (e_tx : σ 9 0 = tx) (F : Fx Y G cX5_readNumber RX5 3) (hY : Y.2.2.2.2.2.2.2.2.2.2.2.1 = 7) (r : Int32) (rd' : Grp) (hR : ∀ (pc : Nat) (lv : List (Nat × Value)), narrow .int (.int r) = .int r → decode cX5_readNumber pc = .ok (.ireturn, 1) → U Y G (upM σ 5 0 (rd')) pc lv [.int r]) :
    ∀ (fu : Nat) (rd : Grp) (x2 : Int32) (x3 : Int32) (x4 : Int32) (x5 : Int32), fX5_readNumber_14 tx fu rd x2 x3 x4 x5 = some (r, rd') → U Y G (upM σ 5 0 rd) 14 [(0, .ref (adr G (5, 0, 0))), (1, .ref (adr G (9, 0, 0))), (2, .int x2), (3, .int x3), (4, .int x4), (5, .int x5)] [] := by
  intro fu
  induction fu with
  | zero =>
    intro rd x2 x3 x4 x5 h
    rw [fX5_readNumber_14] at h
    cases h
  | succ fu ih =>
    intro rd x2 x3 x4 x5 h
    rw [fX5_readNumber_14] at h
    refine u_aload_n (pc := 14) F dX5_readNumber_14 0 rfl rfl ?_
    refine u_get1 (pc := 15) F dX5_readNumber_15 (hL 5 0 0 (by decide) rfl) ck_5 fl_5_25 rfl (by decide) ?_
    refine u_aload_n (pc := 18) F dX5_readNumber_18 1 rfl rfl ?_
    refine u_get (v := tx 0 1) (pc := 19) F dX5_readNumber_19 (hL 9 0 0 (by decide) rfl) ck_9 fl_5_39 rfl (by decide) (congrFun (congrFun (show (upM σ 5 0 rd) 9 0 = tx from e_tx) 0) 1) ?_
    refine u_icmp_ge (pc := 22) F 71 dX5_readNumber_22 (by decide) (fun c3 => ?_) (fun c3 => ?_)
    · rw [if_neg c3] at h
      refine u_lv (lv' := [(0, .ref (adr G (5, 0, 0))), (2, .int x2), (3, .int x3), (4, .int x4), (5, .int x5)]) [0, 2, 3, 4, 5] rfl ?_
      exact wX5_readNumber_71 Y G hL σ tx e_tx F hY r rd' hR rd x2 x3 x4 x5 h
    · rw [if_pos c3] at h
      refine u_aload_n (pc := 25) F dX5_readNumber_25 1 rfl rfl ?_
      refine u_aload_n (pc := 26) F dX5_readNumber_26 0 rfl rfl ?_
      refine u_get1 (pc := 27) F dX5_readNumber_27 (hL 5 0 0 (by decide) rfl) ck_5 fl_5_25 rfl (by decide) ?_
      obtain ⟨q11, hq11, h⟩ := d_bd_some h
      refine u_calli (pc := 30) F (As := [.int (rd 0 2)]) (c_X9_letterAt G hL (rd 0 2) (upM σ 5 0 rd) tx ((show (upM σ 5 0 rd) 9 0 = tx from e_tx)) q11 hq11) yv_X9_letterAt ml_5_47 (hL 9 0 0 (by decide) rfl) rfl (by decide) rfl rfl (Nat.le_of_ble_eq_true rfl) dX5_readNumber_30 ?_
      obtain ⟨q12, hq12, h⟩ := d_bd_some h
      refine u_callSi (pc := 33) F (As := [.int q11]) (c_X5_isFigure G hL q11 (upM σ 5 0 rd) q12 hq12) ys_X5_isFigure ml_5_101 (by decide) rfl rfl (Nat.le_of_ble_eq_true rfl) dX5_readNumber_33 ?_
      refine u_if_eq (pc := 36) F 71 dX5_readNumber_36 (by decide) (fun c13 => ?_) (fun c13 => ?_)
      · rw [if_pos c13] at h
        refine u_lv (lv' := [(0, .ref (adr G (5, 0, 0))), (2, .int x2), (3, .int x3), (4, .int x4), (5, .int x5)]) [0, 2, 3, 4, 5] rfl ?_
        exact wX5_readNumber_71 Y G hL σ tx e_tx F hY r rd' hR rd x2 x3 x4 x5 h
      · rw [if_neg c13] at h
        refine u_iload (pc := 39) F dX5_readNumber_39 5 rfl ?_
        refine u_bipush (v := 10) (pc := 41) F dX5_readNumber_41 (by decide) ?_
        refine u_imul (pc := 43) F dX5_readNumber_43 ?_
        refine u_aload_n (pc := 44) F dX5_readNumber_44 1 rfl rfl ?_
        refine u_aload_n (pc := 45) F dX5_readNumber_45 0 rfl rfl ?_
        refine u_get1 (pc := 46) F dX5_readNumber_46 (hL 5 0 0 (by decide) rfl) ck_5 fl_5_25 rfl (by decide) ?_
        obtain ⟨q14, hq14, h⟩ := d_bd_some h
        refine u_calli (pc := 49) F (As := [.int (rd 0 2)]) (c_X9_letterAt G hL (rd 0 2) (upM σ 5 0 rd) tx ((show (upM σ 5 0 rd) 9 0 = tx from e_tx)) q14 hq14) yv_X9_letterAt ml_5_47 (hL 9 0 0 (by decide) rfl) rfl (by decide) rfl rfl (Nat.le_of_ble_eq_true rfl) dX5_readNumber_49 ?_
        refine u_iadd (pc := 52) F dX5_readNumber_52 ?_
        refine u_bipush (v := 48) (pc := 53) F dX5_readNumber_53 (by decide) ?_
        refine u_isub (pc := 55) F dX5_readNumber_55 ?_
        obtain ⟨v15, hv15, h⟩ := d_lt_some h
        refine u_topi hv15 ?_
        refine u_istore (lv' := [(5, .int v15), (0, .ref (adr G (5, 0, 0))), (1, .ref (adr G (9, 0, 0))), (2, .int x2), (3, .int x3), (4, .int x4)]) (pc := 56) F dX5_readNumber_56 hY (by decide) rfl ?_
        refine u_aload_n (pc := 58) F dX5_readNumber_58 1 rfl rfl ?_
        refine u_dup (pc := 59) F dX5_readNumber_59 rfl ?_
        refine u_get1 (pc := 60) F dX5_readNumber_60 (hL 5 0 0 (by decide) rfl) ck_5 fl_5_25 rfl (by decide) ?_
        refine u_iconst (v := 1) (pc := 63) F dX5_readNumber_63 (by decide) ?_
        refine u_iadd (pc := 64) F dX5_readNumber_64 ?_
        refine u_put1 (pc := 65) F dX5_readNumber_65 (hL 5 0 0 (by decide) rfl) ck_5 fl_5_25 rfl (by decide) rfl (ty0 := .int) (by decide +kernel) rfl rfl ?_
        obtain ⟨g16, hg16, h⟩ := d_lt_some h
        refine u_mem (σ2 := (upM σ 5 0 g16)) (by rw [hg16]) ?_
        refine u_goto (pc := 68) F 14 dX5_readNumber_68 (by decide) ?_
        refine u_lv (lv' := [(0, .ref (adr G (5, 0, 0))), (1, .ref (adr G (9, 0, 0))), (2, .int x2), (3, .int x3), (4, .int x4), (5, .int v15)]) [1, 2, 3, 4, 5, 0] rfl ?_
        exact ih g16 x2 x3 x4 v15 h
set_option maxHeartbeats 4000000 in
set_option maxRecDepth 100000 in
theorem c_X5_readNumber (G : G0) (hL : In G) (x2 : Int32) (x3 : Int32) (σ : Mem) (rd : Grp) (tx : Grp) (e_rd : σ 5 0 = rd) (e_tx : σ 9 0 = tx) (r : Int32) (rd' : Grp) (h : fX5_readNumber rd tx x2 x3 = some (r, rd')) :
    CI G yX5_readNumber cX5_readNumber 7 .int 3 [.ref (adr G (5, 0, 0)), .ref (adr G (9, 0, 0)), .int x2, .int x3] σ r (upM σ 5 0 (rd')) := by
  refine CI.of (by decide +kernel) (Nat.le_of_ble_eq_true rfl) (fun Y hY F hR => ?_)
  unfold fX5_readNumber at h
  have F : Fx Y G cX5_readNumber RX5 3 := F
  refine u_mem (σ2 := (upM σ 5 0 rd)) (by rw [← e_rd]; simp only [upM_self]) ?_
  refine u_lv (lv' := [(0, .ref (adr G (5, 0, 0))), (1, .ref (adr G (9, 0, 0))), (2, .int x2), (3, .int x3)]) [0, 1, 2, 3] rfl ?_
  refine u_aload_n (pc := 0) F dX5_readNumber_0 0 rfl rfl ?_
  refine u_aload_n (pc := 1) F dX5_readNumber_1 1 rfl rfl ?_
  obtain ⟨q1, hq1, h⟩ := d_bd_some h
  refine u_callv (pc := 2) F (As := [.ref (adr G (9, 0, 0))]) (c_X5_skipBlanks G hL (upM σ 5 0 rd) rd tx (upM_same _ _ _ _) ((show (upM σ 5 0 rd) 9 0 = tx from e_tx)) q1 hq1) yv_X5_skipBlanks ml_5_35 (hL 5 0 0 (by decide) rfl) rfl (by decide) rfl rfl (Nat.le_of_ble_eq_true rfl) dX5_readNumber_2 ?_
  refine u_mem (σ2 := (upM σ 5 0 q1)) (by first | (rw [upM_upM]; done) | (rw [upM_mid _ _ _ _ (by decide)]; done) | (rw [upM_mid _ _ _ _ (by decide), upM_upM]; done) | (rw [upM_mid _ _ _ _ (by decide), upM_mid _ _ _ _ (by decide)]; done)) ?_
  refine u_aload_n (pc := 5) F dX5_readNumber_5 0 rfl rfl ?_
  refine u_get1 (pc := 6) F dX5_readNumber_6 (hL 5 0 0 (by decide) rfl) ck_5 fl_5_25 rfl (by decide) ?_
  obtain ⟨v2, hv2, h⟩ := d_lt_some h
  refine u_topi hv2 ?_
  refine u_istore (lv' := [(4, .int v2), (0, .ref (adr G (5, 0, 0))), (1, .ref (adr G (9, 0, 0))), (2, .int x2), (3, .int x3)]) (pc := 9) F dX5_readNumber_9 hY (by decide) rfl ?_
  refine u_iconst (v := 0) (pc := 11) F dX5_readNumber_11 (by decide) ?_
  refine u_istore (lv' := [(5, .int (0 : Int32)), (4, .int v2), (0, .ref (adr G (5, 0, 0))), (1, .ref (adr G (9, 0, 0))), (2, .int x2), (3, .int x3)]) (pc := 12) F dX5_readNumber_12 hY (by decide) rfl ?_
  refine u_lv (lv' := [(0, .ref (adr G (5, 0, 0))), (1, .ref (adr G (9, 0, 0))), (2, .int x2), (3, .int x3), (4, .int v2), (5, .int (0 : Int32))]) [2, 3, 4, 5, 1, 0] rfl ?_
  exact wX5_readNumber_14 Y G hL σ tx e_tx F hY r rd' hR 1000 q1 x2 x3 v2 (0 : Int32) h
/- RollingCodes$Reader.readNumbers -/
def fX5_readNumbers_3 (tx : Grp) (a2 : Nat) (a3 : Nat) : Nat → Grp → Int32 → Option (Grp)
  | 0, _, _ => none
  | fu + 1, rd, x4 =>
    if x4 < (5 : Int32) then (if x4 < (Int32.ofNat (sn_len a2)) then (if x4 < (Int32.ofNat (sn_len a3)) then (if (rd 0 3) = 0 then (d_ab x4 (sn_len a2) <| d_ab x4 (sn_len a3) <| d_bd (fX5_readNumber rd tx (sn_at a2 x4.toNatClampNeg) (sn_at a3 x4.toNatClampNeg)) fun q7 => d_ab x4 5 <| d_lt (wr q7.2 2 x4.toNatClampNeg q7.1) fun g9 => d_lt (x4 + (1 : Int32)) fun v10 => fX5_readNumbers_3 tx a2 a3 fu g9 v10) else (some rd)) else (some rd)) else (some rd)) else (some rd)
def fX5_readNumbers (rd : Grp) (tx : Grp) (a2 : Nat) (a3 : Nat) : Option (Grp) :=
    fX5_readNumbers_3 tx a2 a3 1000 rd (0 : Int32)
set_option maxHeartbeats 4000000 in
set_option maxRecDepth 100000 in
theorem wX5_readNumbers_3 (Y : Dy) (G : G0) (hL : In G) (a2 : Nat) (hs2 : a2 < 6) (a3 : Nat) (hs3 : a3 < 6) (σ : Mem) (tx : Grp) (e_tx : σ 9 0 = tx) (F : Fx Y G cX5_readNumbers RX5 4) (hY : Y.2.2.2.2.2.2.2.2.2.2.2.1 = 5) (rd' : Grp) (hR : ∀ (pc : Nat) (lv : List (Nat × Value)), decode cX5_readNumbers pc = .ok (.return_, 1) → U Y G (upM σ 5 0 (rd')) pc lv []) :
    ∀ (fu : Nat) (rd : Grp) (x4 : Int32), fX5_readNumbers_3 tx a2 a3 fu rd x4 = some rd' → U Y G (upM σ 5 0 rd) 3 [(0, .ref (adr G (5, 0, 0))), (1, .ref (adr G (9, 0, 0))), (2, .ref (G.2.2.2.2.2 a2)), (3, .ref (G.2.2.2.2.2 a3)), (4, .int x4)] [] := by
  intro fu
  induction fu with
  | zero =>
    intro rd x4 h
    rw [fX5_readNumbers_3] at h
    cases h
  | succ fu ih =>
    intro rd x4 h
    rw [fX5_readNumbers_3] at h
    refine u_iload (pc := 3) F dX5_readNumbers_3 4 rfl ?_
    refine u_iconst (v := 5) (pc := 5) F dX5_readNumbers_5 (by decide) ?_
    refine u_icmp_ge (pc := 6) F 56 dX5_readNumbers_6 (by decide) (fun c1 => ?_) (fun c1 => ?_)
    · rw [if_neg c1] at h
      have h1 := Option.some.inj h
      subst h1
      exact hR _ _ dX5_readNumbers_56
    · rw [if_pos c1] at h
      refine u_iload (pc := 9) F dX5_readNumbers_9 4 rfl ?_
      refine u_aload_n (pc := 11) F dX5_readNumbers_11 2 rfl rfl ?_
      refine u_statlen (pc := 12) F dX5_readNumbers_12 a2 hs2 rfl ?_
      refine u_icmp_ge (pc := 13) F 56 dX5_readNumbers_13 (by decide) (fun c2 => ?_) (fun c2 => ?_)
      · rw [if_neg c2] at h
        have h1 := Option.some.inj h
        subst h1
        exact hR _ _ dX5_readNumbers_56
      · rw [if_pos c2] at h
        refine u_iload (pc := 16) F dX5_readNumbers_16 4 rfl ?_
        refine u_aload_n (pc := 18) F dX5_readNumbers_18 3 rfl rfl ?_
        refine u_statlen (pc := 19) F dX5_readNumbers_19 a3 hs3 rfl ?_
        refine u_icmp_ge (pc := 20) F 56 dX5_readNumbers_20 (by decide) (fun c3 => ?_) (fun c3 => ?_)
        · rw [if_neg c3] at h
          have h1 := Option.some.inj h
          subst h1
          exact hR _ _ dX5_readNumbers_56
        · rw [if_pos c3] at h
          refine u_aload_n (pc := 23) F dX5_readNumbers_23 0 rfl rfl ?_
          refine u_get1 (pc := 24) F dX5_readNumbers_24 (hL 5 0 0 (by decide) rfl) ck_5 fl_5_29 rfl (by decide) ?_
          refine u_if_ne (pc := 27) F 56 dX5_readNumbers_27 (by decide) (fun c4 => ?_) (fun c4 => ?_)
          · rw [if_neg c4] at h
            have h1 := Option.some.inj h
            subst h1
            exact hR _ _ dX5_readNumbers_56
          · rw [if_pos c4] at h
            refine u_aload_n (pc := 30) F dX5_readNumbers_30 0 rfl rfl ?_
            refine u_getA (pc := 31) F dX5_readNumbers_31 (hL 5 0 0 (by decide) rfl) ck_5 fl_5_18 rfl (by decide) (by decide) ?_
            refine u_iload (pc := 34) F dX5_readNumbers_34 4 rfl ?_
            refine u_aload_n (pc := 36) F dX5_readNumbers_36 0 rfl rfl ?_
            refine u_aload_n (pc := 37) F dX5_readNumbers_37 1 rfl rfl ?_
            refine u_aload_n (pc := 38) F dX5_readNumbers_38 2 rfl rfl ?_
            refine u_iload (pc := 39) F dX5_readNumbers_39 4 rfl ?_
            obtain ⟨b5, h⟩ := d_ab_some h
            refine u_statld (pc := 41) F dX5_readNumbers_41 a2 hs2 b5 ?_
            refine u_aload_n (pc := 42) F dX5_readNumbers_42 3 rfl rfl ?_
            refine u_iload (pc := 43) F dX5_readNumbers_43 4 rfl ?_
            obtain ⟨b6, h⟩ := d_ab_some h
            refine u_statld (pc := 45) F dX5_readNumbers_45 a3 hs3 b6 ?_
            obtain ⟨q7, hq7, h⟩ := d_bd_some h
            refine u_calli (pc := 46) F (As := [.ref (adr G (9, 0, 0)), .int (sn_at a2 x4.toNatClampNeg), .int (sn_at a3 x4.toNatClampNeg)]) (c_X5_readNumber G hL (sn_at a2 x4.toNatClampNeg) (sn_at a3 x4.toNatClampNeg) (upM σ 5 0 rd) rd tx (upM_same _ _ _ _) ((show (upM σ 5 0 rd) 9 0 = tx from e_tx)) q7.1 q7.2 hq7) yv_X5_readNumber ml_5_97 (hL 5 0 0 (by decide) rfl) rfl (by decide) rfl rfl (Nat.le_of_ble_eq_true rfl) dX5_readNumbers_46 ?_
            refine u_mem (σ2 := (upM σ 5 0 q7.2)) (by first | (rw [upM_upM]; done) | (rw [upM_mid _ _ _ _ (by decide)]; done) | (rw [upM_mid _ _ _ _ (by decide), upM_upM]; done) | (rw [upM_mid _ _ _ _ (by decide), upM_mid _ _ _ _ (by decide)]; done)) ?_
            obtain ⟨b8, h⟩ := d_ab_some h
            refine u_astI1 (pc := 49) F dX5_readNumbers_49 (hL 5 0 2 (by decide) rfl) rfl b8 ?_
            obtain ⟨g9, hg9, h⟩ := d_lt_some h
            refine u_mem (σ2 := (upM σ 5 0 g9)) (by rw [hg9]) ?_
            obtain ⟨v10, hv10, h⟩ := d_lt_some h
            refine u_iinc (lv' := [(4, .int v10), (0, .ref (adr G (5, 0, 0))), (1, .ref (adr G (9, 0, 0))), (2, .ref (G.2.2.2.2.2 a2)), (3, .ref (G.2.2.2.2.2 a3))]) (pc := 50) F dX5_readNumbers_50 4 rfl hv10.symm hY (by decide) rfl ?_
            refine u_goto (pc := 53) F 3 dX5_readNumbers_53 (by decide) ?_
            refine u_lv (lv' := [(0, .ref (adr G (5, 0, 0))), (1, .ref (adr G (9, 0, 0))), (2, .ref (G.2.2.2.2.2 a2)), (3, .ref (G.2.2.2.2.2 a3)), (4, .int v10)]) [1, 2, 3, 4, 0] rfl ?_
            exact ih g9 v10 h
set_option maxHeartbeats 4000000 in
set_option maxRecDepth 100000 in
theorem c_X5_readNumbers (G : G0) (hL : In G) (a2 : Nat) (hs2 : a2 < 6) (a3 : Nat) (hs3 : a3 < 6) (σ : Mem) (rd : Grp) (tx : Grp) (e_rd : σ 5 0 = rd) (e_tx : σ 9 0 = tx) (rd' : Grp) (h : fX5_readNumbers rd tx a2 a3 = some rd') :
    CV G yX5_readNumbers cX5_readNumbers 5 4 [.ref (adr G (5, 0, 0)), .ref (adr G (9, 0, 0)), .ref (G.2.2.2.2.2 a2), .ref (G.2.2.2.2.2 a3)] σ (upM σ 5 0 (rd')) := by
  refine CV.of (by decide +kernel) (Nat.le_of_ble_eq_true rfl) (fun Y hY F hR => ?_)
  unfold fX5_readNumbers at h
  have F : Fx Y G cX5_readNumbers RX5 4 := F
  refine u_mem (σ2 := (upM σ 5 0 rd)) (by rw [← e_rd]; simp only [upM_self]) ?_
  refine u_lv (lv' := [(0, .ref (adr G (5, 0, 0))), (1, .ref (adr G (9, 0, 0))), (2, .ref (G.2.2.2.2.2 a2)), (3, .ref (G.2.2.2.2.2 a3))]) [0, 1, 2, 3] rfl ?_
  refine u_iconst (v := 0) (pc := 0) F dX5_readNumbers_0 (by decide) ?_
  refine u_istore (lv' := [(4, .int (0 : Int32)), (0, .ref (adr G (5, 0, 0))), (1, .ref (adr G (9, 0, 0))), (2, .ref (G.2.2.2.2.2 a2)), (3, .ref (G.2.2.2.2.2 a3))]) (pc := 1) F dX5_readNumbers_1 hY (by decide) rfl ?_
  refine u_lv (lv' := [(0, .ref (adr G (5, 0, 0))), (1, .ref (adr G (9, 0, 0))), (2, .ref (G.2.2.2.2.2 a2)), (3, .ref (G.2.2.2.2.2 a3)), (4, .int (0 : Int32))]) [1, 2, 3, 4, 0] rfl ?_
  exact wX5_readNumbers_3 Y G hL a2 hs2 a3 hs3 σ tx e_tx F hY rd' hR 1000 rd (0 : Int32) h
/- RollingCodes$Reader.readEnd -/
def fX5_readEnd (rd : Grp) (tx : Grp) : Option (Grp) :=
    if (rd 0 3) = 0 then (d_bd (fX5_skipBlanks rd tx) fun q2 => d_bd (fX9_letterAt tx (q2 0 2)) fun q3 => if q3 = (59 : Int32) then (d_lt (wr q2 0 2 ((q2 0 2) + (1 : Int32))) fun g6 => some g6) else (d_bd (fX5_fail q2 (1 : Int32) (q2 0 2)) fun q5 => some q5)) else (some rd)
set_option maxHeartbeats 4000000 in
set_option maxRecDepth 100000 in
theorem c_X5_readEnd (G : G0) (hL : In G) (σ : Mem) (rd : Grp) (tx : Grp) (e_rd : σ 5 0 = rd) (e_tx : σ 9 0 = tx) (rd' : Grp) (h : fX5_readEnd rd tx = some rd') :
    CV G yX5_readEnd cX5_readEnd 2 3 [.ref (adr G (5, 0, 0)), .ref (adr G (9, 0, 0))] σ (upM σ 5 0 (rd')) := by
  refine CV.of (by decide +kernel) (Nat.le_of_ble_eq_true rfl) (fun Y hY F hR => ?_)
  unfold fX5_readEnd at h
  have F : Fx Y G cX5_readEnd RX5 3 := F
  refine u_mem (σ2 := (upM σ 5 0 rd)) (by rw [← e_rd]; simp only [upM_self]) ?_
  refine u_lv (lv' := [(0, .ref (adr G (5, 0, 0))), (1, .ref (adr G (9, 0, 0)))]) [0, 1] rfl ?_
  refine u_aload_n (pc := 0) F dX5_readEnd_0 0 rfl rfl ?_
  refine u_get1 (pc := 1) F dX5_readEnd_1 (hL 5 0 0 (by decide) rfl) ck_5 fl_5_29 rfl (by decide) ?_
  refine u_if_eq (pc := 4) F 8 dX5_readEnd_4 (by decide) (fun c1 => ?_) (fun c1 => ?_)
  · rw [if_pos c1] at h
    refine u_aload_n (pc := 8) F dX5_readEnd_8 0 rfl rfl ?_
    refine u_aload_n (pc := 9) F dX5_readEnd_9 1 rfl rfl ?_
    obtain ⟨q2, hq2, h⟩ := d_bd_some h
    refine u_callv (pc := 10) F (As := [.ref (adr G (9, 0, 0))]) (c_X5_skipBlanks G hL (upM σ 5 0 rd) rd tx (upM_same _ _ _ _) ((show (upM σ 5 0 rd) 9 0 = tx from e_tx)) q2 hq2) yv_X5_skipBlanks ml_5_35 (hL 5 0 0 (by decide) rfl) rfl (by decide) rfl rfl (Nat.le_of_ble_eq_true rfl) dX5_readEnd_10 ?_
    refine u_mem (σ2 := (upM σ 5 0 q2)) (by first | (rw [upM_upM]; done) | (rw [upM_mid _ _ _ _ (by decide)]; done) | (rw [upM_mid _ _ _ _ (by decide), upM_upM]; done) | (rw [upM_mid _ _ _ _ (by decide), upM_mid _ _ _ _ (by decide)]; done)) ?_
    refine u_aload_n (pc := 13) F dX5_readEnd_13 1 rfl rfl ?_
    refine u_aload_n (pc := 14) F dX5_readEnd_14 0 rfl rfl ?_
    refine u_get1 (pc := 15) F dX5_readEnd_15 (hL 5 0 0 (by decide) rfl) ck_5 fl_5_25 rfl (by decide) ?_
    obtain ⟨q3, hq3, h⟩ := d_bd_some h
    refine u_calli (pc := 18) F (As := [.int (q2 0 2)]) (c_X9_letterAt G hL (q2 0 2) (upM σ 5 0 q2) tx ((show (upM σ 5 0 q2) 9 0 = tx from e_tx)) q3 hq3) yv_X9_letterAt ml_5_47 (hL 9 0 0 (by decide) rfl) rfl (by decide) rfl rfl (Nat.le_of_ble_eq_true rfl) dX5_readEnd_18 ?_
    refine u_bipush (v := 59) (pc := 21) F dX5_readEnd_21 (by decide) ?_
    refine u_icmp_ne (pc := 23) F 39 dX5_readEnd_23 (by decide) (fun c4 => ?_) (fun c4 => ?_)
    · rw [if_neg c4] at h
      refine u_aload_n (pc := 39) F dX5_readEnd_39 0 rfl rfl ?_
      refine u_iconst (v := 1) (pc := 40) F dX5_readEnd_40 (by decide) ?_
      refine u_aload_n (pc := 41) F dX5_readEnd_41 0 rfl rfl ?_
      refine u_get1 (pc := 42) F dX5_readEnd_42 (hL 5 0 0 (by decide) rfl) ck_5 fl_5_25 rfl (by decide) ?_
      obtain ⟨q5, hq5, h⟩ := d_bd_some h
      refine u_callv (pc := 45) F (As := [.int (1 : Int32), .int (q2 0 2)]) (c_X5_fail G hL (1 : Int32) (q2 0 2) (upM σ 5 0 q2) q2 (upM_same _ _ _ _) q5 hq5) yv_X5_fail ml_5_54 (hL 5 0 0 (by decide) rfl) rfl (by decide) rfl rfl (Nat.le_of_ble_eq_true rfl) dX5_readEnd_45 ?_
      refine u_mem (σ2 := (upM σ 5 0 q5)) (by first | (rw [upM_upM]; done) | (rw [upM_mid _ _ _ _ (by decide)]; done) | (rw [upM_mid _ _ _ _ (by decide), upM_upM]; done) | (rw [upM_mid _ _ _ _ (by decide), upM_mid _ _ _ _ (by decide)]; done)) ?_
      have h1 := Option.some.inj h
      subst h1
      exact hR _ _ dX5_readEnd_48
    · rw [if_pos c4] at h
      refine u_aload_n (pc := 26) F dX5_readEnd_26 0 rfl rfl ?_
      refine u_dup (pc := 27) F dX5_readEnd_27 rfl ?_
      refine u_get1 (pc := 28) F dX5_readEnd_28 (hL 5 0 0 (by decide) rfl) ck_5 fl_5_25 rfl (by decide) ?_
      refine u_iconst (v := 1) (pc := 31) F dX5_readEnd_31 (by decide) ?_
      refine u_iadd (pc := 32) F dX5_readEnd_32 ?_
      refine u_put1 (pc := 33) F dX5_readEnd_33 (hL 5 0 0 (by decide) rfl) ck_5 fl_5_25 rfl (by decide) rfl (ty0 := .int) (by decide +kernel) rfl rfl ?_
      obtain ⟨g6, hg6, h⟩ := d_lt_some h
      refine u_mem (σ2 := (upM σ 5 0 g6)) (by rw [hg6]) ?_
      refine u_goto (pc := 36) F 48 dX5_readEnd_36 (by decide) ?_
      have h1 := Option.some.inj h
      subst h1
      exact hR _ _ dX5_readEnd_48
  · rw [if_neg c1] at h
    have h1 := Option.some.inj h
    subst h1
    exact hR _ _ dX5_readEnd_7
/- RollingCodes$Plan.addEar -/
def fX4_addEar (pl : Grp) (rd : Grp) : Option (Grp) :=
    d_lt (wr pl 0 0 (1 : Int32)) fun g1 => d_ab (0 : Int32) 5 <| d_lt (wr g1 0 1 (rd 2 (0 : Int32).toNatClampNeg)) fun g3 => d_ab (1 : Int32) 5 <| d_lt (wr g3 0 2 (rd 2 (1 : Int32).toNatClampNeg)) fun g5 => some g5
set_option maxHeartbeats 4000000 in
set_option maxRecDepth 100000 in
theorem c_X4_addEar (G : G0) (hL : In G) (k : Nat) (h_k : k < 2) (σ : Mem) (pl : Grp) (rd : Grp) (e_pl : σ 4 k = pl) (e_rd : σ 5 0 = rd) (pl' : Grp) (h : fX4_addEar pl rd = some pl') :
    CV G yX4_addEar cX4_addEar 2 1 [.ref (adr G (4, k, 0)), .ref (adr G (5, 0, 2))] σ (upM σ 4 k (pl')) := by
  refine CV.of (by decide +kernel) (Nat.le_of_ble_eq_true rfl) (fun Y hY F hR => ?_)
  unfold fX4_addEar at h
  have F : Fx Y G cX4_addEar RX4 1 := F
  refine u_mem (σ2 := (upM σ 4 k pl)) (by rw [← e_pl]; simp only [upM_self]) ?_
  refine u_lv (lv' := [(0, .ref (adr G (4, k, 0))), (1, .ref (adr G (5, 0, 2)))]) [0, 1] rfl ?_
  refine u_aload_n (pc := 0) F dX4_addEar_0 0 rfl rfl ?_
  refine u_iconst (v := 1) (pc := 1) F dX4_addEar_1 (by decide) ?_
  refine u_put1 (pc := 2) F dX4_addEar_2 (hL 4 k 0 h_k rfl) ck_4 fl_4_36 rfl (by decide) rfl (ty0 := .boolean) (by decide +kernel) rfl rfl ?_
  obtain ⟨g1, hg1, h⟩ := d_lt_some h
  refine u_mem (σ2 := (upM σ 4 k g1)) (by rw [hg1]) ?_
  refine u_aload_n (pc := 5) F dX4_addEar_5 0 rfl rfl ?_
  refine u_aload_n (pc := 6) F dX4_addEar_6 1 rfl rfl ?_
  refine u_iconst (v := 0) (pc := 7) F dX4_addEar_7 (by decide) ?_
  obtain ⟨b2, h⟩ := d_ab_some h
  refine u_aldI (v := rd 2 (0 : Int32).toNatClampNeg) (pc := 8) F dX4_addEar_8 (hL 5 0 2 (by decide) rfl) rfl b2 (congrFun (congrFun (show (upM σ 4 k g1) 5 0 = rd from e_rd) 2) _) ?_
  refine u_put1 (pc := 9) F dX4_addEar_9 (hL 4 k 0 h_k rfl) ck_4 fl_4_40 rfl (by decide) rfl (ty0 := .int) (by decide +kernel) rfl rfl ?_
  obtain ⟨g3, hg3, h⟩ := d_lt_some h
  refine u_mem (σ2 := (upM σ 4 k g3)) (by rw [hg3]) ?_
  refine u_aload_n (pc := 12) F dX4_addEar_12 0 rfl rfl ?_
  refine u_aload_n (pc := 13) F dX4_addEar_13 1 rfl rfl ?_
  refine u_iconst (v := 1) (pc := 14) F dX4_addEar_14 (by decide) ?_
  obtain ⟨b4, h⟩ := d_ab_some h
  refine u_aldI (v := rd 2 (1 : Int32).toNatClampNeg) (pc := 15) F dX4_addEar_15 (hL 5 0 2 (by decide) rfl) rfl b4 (congrFun (congrFun (show (upM σ 4 k g3) 5 0 = rd from e_rd) 2) _) ?_
  refine u_put1 (pc := 16) F dX4_addEar_16 (hL 4 k 0 h_k rfl) ck_4 fl_4_44 rfl (by decide) rfl (ty0 := .int) (by decide +kernel) rfl rfl ?_
  obtain ⟨g5, hg5, h⟩ := d_lt_some h
  refine u_mem (σ2 := (upM σ 4 k g5)) (by rw [hg5]) ?_
  have h1 := Option.some.inj h
  subst h1
  exact hR _ _ dX4_addEar_19
/- RollingCodes$Plan.addGate -/
def fX4_addGate (pl : Grp) (rd : Grp) : Option (Grp) :=
    if (pl 0 3) < (4 : Int32) then (d_ab (0 : Int32) 5 <| d_ab (pl 0 3) 4 <| d_lt (wr pl 6 (pl 0 3).toNatClampNeg (rd 2 (0 : Int32).toNatClampNeg)) fun g4 => d_ab (1 : Int32) 5 <| d_ab (g4 0 3) 4 <| d_lt (wr g4 7 (g4 0 3).toNatClampNeg (rd 2 (1 : Int32).toNatClampNeg)) fun g7 => d_ab (2 : Int32) 5 <| d_ab (g7 0 3) 4 <| d_lt (wr g7 8 (g7 0 3).toNatClampNeg (rd 2 (2 : Int32).toNatClampNeg)) fun g10 => d_lt (wr g10 0 3 ((g10 0 3) + (1 : Int32))) fun g11 => some g11) else (some pl)
set_option maxHeartbeats 4000000 in
set_option maxRecDepth 100000 in
theorem c_X4_addGate (G : G0) (hL : In G) (k : Nat) (h_k : k < 2) (σ : Mem) (pl : Grp) (rd : Grp) (e_pl : σ 4 k = pl) (e_rd : σ 5 0 = rd) (pl' : Grp) (h : fX4_addGate pl rd = some pl') :
    CV G yX4_addGate cX4_addGate 2 1 [.ref (adr G (4, k, 0)), .ref (adr G (5, 0, 2))] σ (upM σ 4 k (pl')) := by
  refine CV.of (by decide +kernel) (Nat.le_of_ble_eq_true rfl) (fun Y hY F hR => ?_)
  unfold fX4_addGate at h
  have F : Fx Y G cX4_addGate RX4 1 := F
  refine u_mem (σ2 := (upM σ 4 k pl)) (by rw [← e_pl]; simp only [upM_self]) ?_
  refine u_lv (lv' := [(0, .ref (adr G (4, k, 0))), (1, .ref (adr G (5, 0, 2)))]) [0, 1] rfl ?_
  refine u_aload_n (pc := 0) F dX4_addGate_0 0 rfl rfl ?_
  refine u_get1 (pc := 1) F dX4_addGate_1 (hL 4 k 0 h_k rfl) ck_4 fl_4_47 rfl (by decide) ?_
  refine u_iconst (v := 4) (pc := 4) F dX4_addGate_4 (by decide) ?_
  refine u_icmp_lt (pc := 5) F 9 dX4_addGate_5 (by decide) (fun c1 => ?_) (fun c1 => ?_)
  · rw [if_pos c1] at h
    refine u_aload_n (pc := 9) F dX4_addGate_9 0 rfl rfl ?_
    refine u_getA (pc := 10) F dX4_addGate_10 (hL 4 k 0 h_k rfl) ck_4 fl_4_9 rfl (by decide) (by decide) ?_
    refine u_aload_n (pc := 13) F dX4_addGate_13 0 rfl rfl ?_
    refine u_get1 (pc := 14) F dX4_addGate_14 (hL 4 k 0 h_k rfl) ck_4 fl_4_47 rfl (by decide) ?_
    refine u_aload_n (pc := 17) F dX4_addGate_17 1 rfl rfl ?_
    refine u_iconst (v := 0) (pc := 18) F dX4_addGate_18 (by decide) ?_
    obtain ⟨b2, h⟩ := d_ab_some h
    refine u_aldI (v := rd 2 (0 : Int32).toNatClampNeg) (pc := 19) F dX4_addGate_19 (hL 5 0 2 (by decide) rfl) rfl b2 (congrFun (congrFun (show (upM σ 4 k pl) 5 0 = rd from e_rd) 2) _) ?_
    obtain ⟨b3, h⟩ := d_ab_some h
    refine u_astI1 (pc := 20) F dX4_addGate_20 (hL 4 k 6 h_k rfl) rfl b3 ?_
    obtain ⟨g4, hg4, h⟩ := d_lt_some h
    refine u_mem (σ2 := (upM σ 4 k g4)) (by rw [hg4]) ?_
    refine u_aload_n (pc := 21) F dX4_addGate_21 0 rfl rfl ?_
    refine u_getA (pc := 22) F dX4_addGate_22 (hL 4 k 0 h_k rfl) ck_4 fl_4_15 rfl (by decide) (by decide) ?_
    refine u_aload_n (pc := 25) F dX4_addGate_25 0 rfl rfl ?_
    refine u_get1 (pc := 26) F dX4_addGate_26 (hL 4 k 0 h_k rfl) ck_4 fl_4_47 rfl (by decide) ?_
    refine u_aload_n (pc := 29) F dX4_addGate_29 1 rfl rfl ?_
    refine u_iconst (v := 1) (pc := 30) F dX4_addGate_30 (by decide) ?_
    obtain ⟨b5, h⟩ := d_ab_some h
    refine u_aldI (v := rd 2 (1 : Int32).toNatClampNeg) (pc := 31) F dX4_addGate_31 (hL 5 0 2 (by decide) rfl) rfl b5 (congrFun (congrFun (show (upM σ 4 k g4) 5 0 = rd from e_rd) 2) _) ?_
    obtain ⟨b6, h⟩ := d_ab_some h
    refine u_astI1 (pc := 32) F dX4_addGate_32 (hL 4 k 7 h_k rfl) rfl b6 ?_
    obtain ⟨g7, hg7, h⟩ := d_lt_some h
    refine u_mem (σ2 := (upM σ 4 k g7)) (by rw [hg7]) ?_
    refine u_aload_n (pc := 33) F dX4_addGate_33 0 rfl rfl ?_
    refine u_getA (pc := 34) F dX4_addGate_34 (hL 4 k 0 h_k rfl) ck_4 fl_4_18 rfl (by decide) (by decide) ?_
    refine u_aload_n (pc := 37) F dX4_addGate_37 0 rfl rfl ?_
    refine u_get1 (pc := 38) F dX4_addGate_38 (hL 4 k 0 h_k rfl) ck_4 fl_4_47 rfl (by decide) ?_
    refine u_aload_n (pc := 41) F dX4_addGate_41 1 rfl rfl ?_
    refine u_iconst (v := 2) (pc := 42) F dX4_addGate_42 (by decide) ?_
    obtain ⟨b8, h⟩ := d_ab_some h
    refine u_aldI (v := rd 2 (2 : Int32).toNatClampNeg) (pc := 43) F dX4_addGate_43 (hL 5 0 2 (by decide) rfl) rfl b8 (congrFun (congrFun (show (upM σ 4 k g7) 5 0 = rd from e_rd) 2) _) ?_
    obtain ⟨b9, h⟩ := d_ab_some h
    refine u_astI1 (pc := 44) F dX4_addGate_44 (hL 4 k 8 h_k rfl) rfl b9 ?_
    obtain ⟨g10, hg10, h⟩ := d_lt_some h
    refine u_mem (σ2 := (upM σ 4 k g10)) (by rw [hg10]) ?_
    refine u_aload_n (pc := 45) F dX4_addGate_45 0 rfl rfl ?_
    refine u_dup (pc := 46) F dX4_addGate_46 rfl ?_
    refine u_get1 (pc := 47) F dX4_addGate_47 (hL 4 k 0 h_k rfl) ck_4 fl_4_47 rfl (by decide) ?_
    refine u_iconst (v := 1) (pc := 50) F dX4_addGate_50 (by decide) ?_
    refine u_iadd (pc := 51) F dX4_addGate_51 ?_
    refine u_put1 (pc := 52) F dX4_addGate_52 (hL 4 k 0 h_k rfl) ck_4 fl_4_47 rfl (by decide) rfl (ty0 := .int) (by decide +kernel) rfl rfl ?_
    obtain ⟨g11, hg11, h⟩ := d_lt_some h
    refine u_mem (σ2 := (upM σ 4 k g11)) (by rw [hg11]) ?_
    have h1 := Option.some.inj h
    subst h1
    exact hR _ _ dX4_addGate_55
  · rw [if_neg c1] at h
    have h1 := Option.some.inj h
    subst h1
    exact hR _ _ dX4_addGate_8
/- RollingCodes$Plan.addFob -/
def fX4_addFob (pl : Grp) (rd : Grp) : Option (Grp) :=
    if (pl 0 4) < (5 : Int32) then (d_ab (0 : Int32) 5 <| d_ab (pl 0 4) 5 <| d_lt (wr pl 9 (pl 0 4).toNatClampNeg (rd 2 (0 : Int32).toNatClampNeg)) fun g4 => d_ab (1 : Int32) 5 <| d_ab (g4 0 4) 5 <| d_lt (wr g4 10 (g4 0 4).toNatClampNeg (rd 2 (1 : Int32).toNatClampNeg)) fun g7 => d_ab (2 : Int32) 5 <| d_ab (g7 0 4) 5 <| d_lt (wr g7 11 (g7 0 4).toNatClampNeg (rd 2 (2 : Int32).toNatClampNeg)) fun g10 => d_ab (3 : Int32) 5 <| d_ab (g10 0 4) 5 <| d_lt (wr g10 12 (g10 0 4).toNatClampNeg (rd 2 (3 : Int32).toNatClampNeg)) fun g13 => d_ab (4 : Int32) 5 <| d_ab (g13 0 4) 5 <| d_lt (wr g13 13 (g13 0 4).toNatClampNeg (rd 2 (4 : Int32).toNatClampNeg)) fun g16 => d_lt (wr g16 0 4 ((g16 0 4) + (1 : Int32))) fun g17 => some g17) else (some pl)
set_option maxHeartbeats 4000000 in
set_option maxRecDepth 100000 in
theorem c_X4_addFob (G : G0) (hL : In G) (k : Nat) (h_k : k < 2) (σ : Mem) (pl : Grp) (rd : Grp) (e_pl : σ 4 k = pl) (e_rd : σ 5 0 = rd) (pl' : Grp) (h : fX4_addFob pl rd = some pl') :
    CV G yX4_addFob cX4_addFob 2 1 [.ref (adr G (4, k, 0)), .ref (adr G (5, 0, 2))] σ (upM σ 4 k (pl')) := by
  refine CV.of (by decide +kernel) (Nat.le_of_ble_eq_true rfl) (fun Y hY F hR => ?_)
  unfold fX4_addFob at h
  have F : Fx Y G cX4_addFob RX4 1 := F
  refine u_mem (σ2 := (upM σ 4 k pl)) (by rw [← e_pl]; simp only [upM_self]) ?_
  refine u_lv (lv' := [(0, .ref (adr G (4, k, 0))), (1, .ref (adr G (5, 0, 2)))]) [0, 1] rfl ?_
  refine u_aload_n (pc := 0) F dX4_addFob_0 0 rfl rfl ?_
  refine u_get1 (pc := 1) F dX4_addFob_1 (hL 4 k 0 h_k rfl) ck_4 fl_4_50 rfl (by decide) ?_
  refine u_iconst (v := 5) (pc := 4) F dX4_addFob_4 (by decide) ?_
  refine u_icmp_lt (pc := 5) F 9 dX4_addFob_5 (by decide) (fun c1 => ?_) (fun c1 => ?_)
  · rw [if_pos c1] at h
    refine u_aload_n (pc := 9) F dX4_addFob_9 0 rfl rfl ?_
    refine u_getA (pc := 10) F dX4_addFob_10 (hL 4 k 0 h_k rfl) ck_4 fl_4_21 rfl (by decide) (by decide) ?_
    refine u_aload_n (pc := 13) F dX4_addFob_13 0 rfl rfl ?_
    refine u_get1 (pc := 14) F dX4_addFob_14 (hL 4 k 0 h_k rfl) ck_4 fl_4_50 rfl (by decide) ?_
    refine u_aload_n (pc := 17) F dX4_addFob_17 1 rfl rfl ?_
    refine u_iconst (v := 0) (pc := 18) F dX4_addFob_18 (by decide) ?_
    obtain ⟨b2, h⟩ := d_ab_some h
    refine u_aldI (v := rd 2 (0 : Int32).toNatClampNeg) (pc := 19) F dX4_addFob_19 (hL 5 0 2 (by decide) rfl) rfl b2 (congrFun (congrFun (show (upM σ 4 k pl) 5 0 = rd from e_rd) 2) _) ?_
    obtain ⟨b3, h⟩ := d_ab_some h
    refine u_astI1 (pc := 20) F dX4_addFob_20 (hL 4 k 9 h_k rfl) rfl b3 ?_
    obtain ⟨g4, hg4, h⟩ := d_lt_some h
    refine u_mem (σ2 := (upM σ 4 k g4)) (by rw [hg4]) ?_
    refine u_aload_n (pc := 21) F dX4_addFob_21 0 rfl rfl ?_
    refine u_getA (pc := 22) F dX4_addFob_22 (hL 4 k 0 h_k rfl) ck_4 fl_4_24 rfl (by decide) (by decide) ?_
    refine u_aload_n (pc := 25) F dX4_addFob_25 0 rfl rfl ?_
    refine u_get1 (pc := 26) F dX4_addFob_26 (hL 4 k 0 h_k rfl) ck_4 fl_4_50 rfl (by decide) ?_
    refine u_aload_n (pc := 29) F dX4_addFob_29 1 rfl rfl ?_
    refine u_iconst (v := 1) (pc := 30) F dX4_addFob_30 (by decide) ?_
    obtain ⟨b5, h⟩ := d_ab_some h
    refine u_aldI (v := rd 2 (1 : Int32).toNatClampNeg) (pc := 31) F dX4_addFob_31 (hL 5 0 2 (by decide) rfl) rfl b5 (congrFun (congrFun (show (upM σ 4 k g4) 5 0 = rd from e_rd) 2) _) ?_
    obtain ⟨b6, h⟩ := d_ab_some h
    refine u_astI1 (pc := 32) F dX4_addFob_32 (hL 4 k 10 h_k rfl) rfl b6 ?_
    obtain ⟨g7, hg7, h⟩ := d_lt_some h
    refine u_mem (σ2 := (upM σ 4 k g7)) (by rw [hg7]) ?_
    refine u_aload_n (pc := 33) F dX4_addFob_33 0 rfl rfl ?_
    refine u_getA (pc := 34) F dX4_addFob_34 (hL 4 k 0 h_k rfl) ck_4 fl_4_27 rfl (by decide) (by decide) ?_
    refine u_aload_n (pc := 37) F dX4_addFob_37 0 rfl rfl ?_
    refine u_get1 (pc := 38) F dX4_addFob_38 (hL 4 k 0 h_k rfl) ck_4 fl_4_50 rfl (by decide) ?_
    refine u_aload_n (pc := 41) F dX4_addFob_41 1 rfl rfl ?_
    refine u_iconst (v := 2) (pc := 42) F dX4_addFob_42 (by decide) ?_
    obtain ⟨b8, h⟩ := d_ab_some h
    refine u_aldI (v := rd 2 (2 : Int32).toNatClampNeg) (pc := 43) F dX4_addFob_43 (hL 5 0 2 (by decide) rfl) rfl b8 (congrFun (congrFun (show (upM σ 4 k g7) 5 0 = rd from e_rd) 2) _) ?_
    obtain ⟨b9, h⟩ := d_ab_some h
    refine u_astI1 (pc := 44) F dX4_addFob_44 (hL 4 k 11 h_k rfl) rfl b9 ?_
    obtain ⟨g10, hg10, h⟩ := d_lt_some h
    refine u_mem (σ2 := (upM σ 4 k g10)) (by rw [hg10]) ?_
    refine u_aload_n (pc := 45) F dX4_addFob_45 0 rfl rfl ?_
    refine u_getA (pc := 46) F dX4_addFob_46 (hL 4 k 0 h_k rfl) ck_4 fl_4_30 rfl (by decide) (by decide) ?_
    refine u_aload_n (pc := 49) F dX4_addFob_49 0 rfl rfl ?_
    refine u_get1 (pc := 50) F dX4_addFob_50 (hL 4 k 0 h_k rfl) ck_4 fl_4_50 rfl (by decide) ?_
    refine u_aload_n (pc := 53) F dX4_addFob_53 1 rfl rfl ?_
    refine u_iconst (v := 3) (pc := 54) F dX4_addFob_54 (by decide) ?_
    obtain ⟨b11, h⟩ := d_ab_some h
    refine u_aldI (v := rd 2 (3 : Int32).toNatClampNeg) (pc := 55) F dX4_addFob_55 (hL 5 0 2 (by decide) rfl) rfl b11 (congrFun (congrFun (show (upM σ 4 k g10) 5 0 = rd from e_rd) 2) _) ?_
    obtain ⟨b12, h⟩ := d_ab_some h
    refine u_astI1 (pc := 56) F dX4_addFob_56 (hL 4 k 12 h_k rfl) rfl b12 ?_
    obtain ⟨g13, hg13, h⟩ := d_lt_some h
    refine u_mem (σ2 := (upM σ 4 k g13)) (by rw [hg13]) ?_
    refine u_aload_n (pc := 57) F dX4_addFob_57 0 rfl rfl ?_
    refine u_getA (pc := 58) F dX4_addFob_58 (hL 4 k 0 h_k rfl) ck_4 fl_4_33 rfl (by decide) (by decide) ?_
    refine u_aload_n (pc := 61) F dX4_addFob_61 0 rfl rfl ?_
    refine u_get1 (pc := 62) F dX4_addFob_62 (hL 4 k 0 h_k rfl) ck_4 fl_4_50 rfl (by decide) ?_
    refine u_aload_n (pc := 65) F dX4_addFob_65 1 rfl rfl ?_
    refine u_iconst (v := 4) (pc := 66) F dX4_addFob_66 (by decide) ?_
    obtain ⟨b14, h⟩ := d_ab_some h
    refine u_aldI (v := rd 2 (4 : Int32).toNatClampNeg) (pc := 67) F dX4_addFob_67 (hL 5 0 2 (by decide) rfl) rfl b14 (congrFun (congrFun (show (upM σ 4 k g13) 5 0 = rd from e_rd) 2) _) ?_
    obtain ⟨b15, h⟩ := d_ab_some h
    refine u_astI1 (pc := 68) F dX4_addFob_68 (hL 4 k 13 h_k rfl) rfl b15 ?_
    obtain ⟨g16, hg16, h⟩ := d_lt_some h
    refine u_mem (σ2 := (upM σ 4 k g16)) (by rw [hg16]) ?_
    refine u_aload_n (pc := 69) F dX4_addFob_69 0 rfl rfl ?_
    refine u_dup (pc := 70) F dX4_addFob_70 rfl ?_
    refine u_get1 (pc := 71) F dX4_addFob_71 (hL 4 k 0 h_k rfl) ck_4 fl_4_50 rfl (by decide) ?_
    refine u_iconst (v := 1) (pc := 74) F dX4_addFob_74 (by decide) ?_
    refine u_iadd (pc := 75) F dX4_addFob_75 ?_
    refine u_put1 (pc := 76) F dX4_addFob_76 (hL 4 k 0 h_k rfl) ck_4 fl_4_50 rfl (by decide) rfl (ty0 := .int) (by decide +kernel) rfl rfl ?_
    obtain ⟨g17, hg17, h⟩ := d_lt_some h
    refine u_mem (σ2 := (upM σ 4 k g17)) (by rw [hg17]) ?_
    have h1 := Option.some.inj h
    subst h1
    exact hR _ _ dX4_addFob_79
  · rw [if_neg c1] at h
    have h1 := Option.some.inj h
    subst h1
    exact hR _ _ dX4_addFob_8
/- RollingCodes$Reader.enter -/
def fX5_enter (rd : Grp) (df : Grp) (x1 : Int32) : Option (Grp) :=
    if x1 = (101 : Int32) then (d_bd (fX4_addEar df rd) fun q5 => some q5) else (if x1 = (103 : Int32) then (d_bd (fX4_addGate df rd) fun q4 => some q4) else (d_bd (fX4_addFob df rd) fun q3 => some q3))
set_option maxHeartbeats 4000000 in
set_option maxRecDepth 100000 in
theorem c_X5_enter (G : G0) (hL : In G) (x1 : Int32) (σ : Mem) (rd : Grp) (df : Grp) (e_rd : σ 5 0 = rd) (e_df : σ 4 1 = df) (df' : Grp) (h : fX5_enter rd df x1 = some df') :
    CV G yX5_enter cX5_enter 2 2 [.ref (adr G (5, 0, 0)), .int x1] σ (upM σ 4 1 (df')) := by
  refine CV.of (by decide +kernel) (Nat.le_of_ble_eq_true rfl) (fun Y hY F hR => ?_)
  unfold fX5_enter at h
  have F : Fx Y G cX5_enter RX5 2 := F
  refine u_mem (σ2 := (upM σ 4 1 df)) (by rw [← e_df]; simp only [upM_self]) ?_
  refine u_lv (lv' := [(0, .ref (adr G (5, 0, 0))), (1, .int x1)]) [0, 1] rfl ?_
  refine u_iload_n (pc := 0) F dX5_enter_0 1 rfl rfl ?_
  refine u_bipush (v := 101) (pc := 1) F dX5_enter_1 (by decide) ?_
  refine u_icmp_ne (pc := 3) F 20 dX5_enter_3 (by decide) (fun c1 => ?_) (fun c1 => ?_)
  · rw [if_neg c1] at h
    refine u_iload_n (pc := 20) F dX5_enter_20 1 rfl rfl ?_
    refine u_bipush (v := 103) (pc := 21) F dX5_enter_21 (by decide) ?_
    refine u_icmp_ne (pc := 23) F 40 dX5_enter_23 (by decide) (fun c2 => ?_) (fun c2 => ?_)
    · rw [if_neg c2] at h
      refine u_aload_n (pc := 40) F dX5_enter_40 0 rfl rfl ?_
      refine u_getO (pc := 41) F dX5_enter_41 (hL 5 0 0 (by decide) rfl) ck_5 fl_5_12 rfl (by decide) rfl ?_
      refine u_aload_n (pc := 44) F dX5_enter_44 0 rfl rfl ?_
      refine u_getA (pc := 45) F dX5_enter_45 (hL 5 0 0 (by decide) rfl) ck_5 fl_5_18 rfl (by decide) (by decide) ?_
      obtain ⟨q3, hq3, h⟩ := d_bd_some h
      refine u_callv (pc := 48) F (As := [.ref (adr G (5, 0, 2))]) (c_X4_addFob G hL 1 (by decide) (upM σ 4 1 df) df rd (upM_same _ _ _ _) ((show (upM σ 4 1 df) 5 0 = rd from e_rd)) q3 hq3) yv_X4_addFob ml_5_112 (hL 4 1 0 (by decide) rfl) rfl (by decide) rfl rfl (Nat.le_of_ble_eq_true rfl) dX5_enter_48 ?_
      refine u_mem (σ2 := (upM σ 4 1 q3)) (by first | (rw [upM_upM]; done) | (rw [upM_mid _ _ _ _ (by decide)]; done) | (rw [upM_mid _ _ _ _ (by decide), upM_upM]; done) | (rw [upM_mid _ _ _ _ (by decide), upM_mid _ _ _ _ (by decide)]; done)) ?_
      have h1 := Option.some.inj h
      subst h1
      exact hR _ _ dX5_enter_51
    · rw [if_pos c2] at h
      refine u_aload_n (pc := 26) F dX5_enter_26 0 rfl rfl ?_
      refine u_getO (pc := 27) F dX5_enter_27 (hL 5 0 0 (by decide) rfl) ck_5 fl_5_12 rfl (by decide) rfl ?_
      refine u_aload_n (pc := 30) F dX5_enter_30 0 rfl rfl ?_
      refine u_getA (pc := 31) F dX5_enter_31 (hL 5 0 0 (by decide) rfl) ck_5 fl_5_18 rfl (by decide) (by decide) ?_
      obtain ⟨q4, hq4, h⟩ := d_bd_some h
      refine u_callv (pc := 34) F (As := [.ref (adr G (5, 0, 2))]) (c_X4_addGate G hL 1 (by decide) (upM σ 4 1 df) df rd (upM_same _ _ _ _) ((show (upM σ 4 1 df) 5 0 = rd from e_rd)) q4 hq4) yv_X4_addGate ml_5_109 (hL 4 1 0 (by decide) rfl) rfl (by decide) rfl rfl (Nat.le_of_ble_eq_true rfl) dX5_enter_34 ?_
      refine u_mem (σ2 := (upM σ 4 1 q4)) (by first | (rw [upM_upM]; done) | (rw [upM_mid _ _ _ _ (by decide)]; done) | (rw [upM_mid _ _ _ _ (by decide), upM_upM]; done) | (rw [upM_mid _ _ _ _ (by decide), upM_mid _ _ _ _ (by decide)]; done)) ?_
      refine u_goto (pc := 37) F 51 dX5_enter_37 (by decide) ?_
      have h1 := Option.some.inj h
      subst h1
      exact hR _ _ dX5_enter_51
  · rw [if_pos c1] at h
    refine u_aload_n (pc := 6) F dX5_enter_6 0 rfl rfl ?_
    refine u_getO (pc := 7) F dX5_enter_7 (hL 5 0 0 (by decide) rfl) ck_5 fl_5_12 rfl (by decide) rfl ?_
    refine u_aload_n (pc := 10) F dX5_enter_10 0 rfl rfl ?_
    refine u_getA (pc := 11) F dX5_enter_11 (hL 5 0 0 (by decide) rfl) ck_5 fl_5_18 rfl (by decide) (by decide) ?_
    obtain ⟨q5, hq5, h⟩ := d_bd_some h
    refine u_callv (pc := 14) F (As := [.ref (adr G (5, 0, 2))]) (c_X4_addEar G hL 1 (by decide) (upM σ 4 1 df) df rd (upM_same _ _ _ _) ((show (upM σ 4 1 df) 5 0 = rd from e_rd)) q5 hq5) yv_X4_addEar ml_5_105 (hL 4 1 0 (by decide) rfl) rfl (by decide) rfl rfl (Nat.le_of_ble_eq_true rfl) dX5_enter_14 ?_
    refine u_mem (σ2 := (upM σ 4 1 q5)) (by first | (rw [upM_upM]; done) | (rw [upM_mid _ _ _ _ (by decide)]; done) | (rw [upM_mid _ _ _ _ (by decide), upM_upM]; done) | (rw [upM_mid _ _ _ _ (by decide), upM_mid _ _ _ _ (by decide)]; done)) ?_
    refine u_goto (pc := 17) F 51 dX5_enter_17 (by decide) ?_
    have h1 := Option.some.inj h
    subst h1
    exact hR _ _ dX5_enter_51
/- RollingCodes$Reader.readClause -/
def fX5_readClause_90 (tx : Grp) (rd : Grp) (df : Grp) (x2 : Int32) : Option (Grp × Grp) :=
    d_bd (fX5_readEnd rd tx) fun q8 => if (q8 0 3) = 0 then (d_bd (fX5_enter q8 df x2) fun q10 => some (q8, q10)) else (some (q8, df))
def fX5_readClause (rd : Grp) (df : Grp) (tx : Grp) : Option (Grp × Grp) :=
    d_bd (fX9_letterAt tx (rd 0 2)) fun q1 => d_bd (fX5_faultOfWord df q1) fun q2 => if q2 = 0 then (d_lt (wr rd 0 2 ((rd 0 2) + (1 : Int32))) fun g4 => if q1 = (101 : Int32) then (d_bd (fX5_readNumbers g4 tx 1 0) fun q12 => fX5_readClause_90 tx q12 df q1) else (if q1 = (103 : Int32) then (d_bd (fX5_readNumbers g4 tx 3 2) fun q11 => fX5_readClause_90 tx q11 df q1) else (d_bd (fX5_readNumbers g4 tx 5 4) fun q7 => fX5_readClause_90 tx q7 df q1))) else (d_bd (fX5_fail rd q2 (rd 0 2)) fun q13 => some (q13, df))
set_option maxHeartbeats 4000000 in
set_option maxRecDepth 100000 in
theorem wX5_readClause_90 (Y : Dy) (G : G0) (hL : In G) (σ : Mem) (tx : Grp) (e_tx : σ 9 0 = tx) (F : Fx Y G cX5_readClause RX5 5) (hY : Y.2.2.2.2.2.2.2.2.2.2.2.1 = 4) (rd' : Grp) (df' : Grp) (hR : ∀ (pc : Nat) (lv : List (Nat × Value)), decode cX5_readClause pc = .ok (.return_, 1) → U Y G (upM (upM σ 5 0 (rd')) 4 1 (df')) pc lv []) :
    ∀ (rd : Grp) (df : Grp) (x2 : Int32), fX5_readClause_90 tx rd df x2 = some (rd', df') → U Y G (upM (upM σ 5 0 rd) 4 1 df) 90 [(0, .ref (adr G (5, 0, 0))), (1, .ref (adr G (9, 0, 0))), (2, .int x2)] [] := by
  intro rd df x2 h
  unfold fX5_readClause_90 at h
  refine u_aload_n (pc := 90) F dX5_readClause_90 0 rfl rfl ?_
  refine u_aload_n (pc := 91) F dX5_readClause_91 1 rfl rfl ?_
  obtain ⟨q8, hq8, h⟩ := d_bd_some h
  refine u_callv (pc := 92) F (As := [.ref (adr G (9, 0, 0))]) (c_X5_readEnd G hL (upM (upM σ 5 0 rd) 4 1 df) rd tx (((upM_ne (by decide)).trans (upM_same _ _ _ _))) ((show (upM (upM σ 5 0 rd) 4 1 df) 9 0 = tx from e_tx)) q8 hq8) yv_X5_readEnd ml_5_80 (hL 5 0 0 (by decide) rfl) rfl (by decide) rfl rfl (Nat.le_of_ble_eq_true rfl) dX5_readClause_92 ?_
  refine u_mem (σ2 := (upM (upM σ 5 0 q8) 4 1 df)) (by first | (rw [upM_upM]; done) | (rw [upM_mid _ _ _ _ (by decide)]; done) | (rw [upM_mid _ _ _ _ (by decide), upM_upM]; done) | (rw [upM_mid _ _ _ _ (by decide), upM_mid _ _ _ _ (by decide)]; done)) ?_
  refine u_aload_n (pc := 95) F dX5_readClause_95 0 rfl rfl ?_
  refine u_get (v := q8 0 3) (pc := 96) F dX5_readClause_96 (hL 5 0 0 (by decide) rfl) ck_5 fl_5_29 rfl (by decide) (congrFun (congrFun ((upM_ne (by decide)).trans (upM_same _ _ _ _)) 0) 3) ?_
  refine u_if_ne (pc := 99) F 107 dX5_readClause_99 (by decide) (fun c9 => ?_) (fun c9 => ?_)
  · rw [if_neg c9] at h
    have h1 := Option.some.inj h
    obtain ⟨hj0, hr0⟩ := Prod.mk.inj h1
    subst hj0
    subst hr0
    exact hR _ _ dX5_readClause_107
  · rw [if_pos c9] at h
    refine u_aload_n (pc := 102) F dX5_readClause_102 0 rfl rfl ?_
    refine u_iload_n (pc := 103) F dX5_readClause_103 2 rfl rfl ?_
    obtain ⟨q10, hq10, h⟩ := d_bd_some h
    refine u_callv (pc := 104) F (As := [.int x2]) (c_X5_enter G hL x2 (upM (upM σ 5 0 q8) 4 1 df) q8 df (((upM_ne (by decide)).trans (upM_same _ _ _ _))) (upM_same _ _ _ _) q10 hq10) yv_X5_enter ml_5_83 (hL 5 0 0 (by decide) rfl) rfl (by decide) rfl rfl (Nat.le_of_ble_eq_true rfl) dX5_readClause_104 ?_
    refine u_mem (σ2 := (upM (upM σ 5 0 q8) 4 1 q10)) (by first | (rw [upM_upM]; done) | (rw [upM_mid _ _ _ _ (by decide)]; done) | (rw [upM_mid _ _ _ _ (by decide), upM_upM]; done) | (rw [upM_mid _ _ _ _ (by decide), upM_mid _ _ _ _ (by decide)]; done)) ?_
    have h1 := Option.some.inj h
    obtain ⟨hj0, hr0⟩ := Prod.mk.inj h1
    subst hj0
    subst hr0
    exact hR _ _ dX5_readClause_107
set_option maxHeartbeats 4000000 in
set_option maxRecDepth 100000 in
theorem c_X5_readClause (G : G0) (hL : In G) (σ : Mem) (rd : Grp) (df : Grp) (tx : Grp) (e_rd : σ 5 0 = rd) (e_df : σ 4 1 = df) (e_tx : σ 9 0 = tx) (rd' : Grp) (df' : Grp) (h : fX5_readClause rd df tx = some (rd', df')) :
    CV G yX5_readClause cX5_readClause 4 5 [.ref (adr G (5, 0, 0)), .ref (adr G (9, 0, 0))] σ (upM (upM σ 5 0 (rd')) 4 1 (df')) := by
  refine CV.of (by decide +kernel) (Nat.le_of_ble_eq_true rfl) (fun Y hY F hR => ?_)
  unfold fX5_readClause at h
  have F : Fx Y G cX5_readClause RX5 5 := F
  refine u_mem (σ2 := (upM (upM σ 5 0 rd) 4 1 df)) (by rw [← e_rd]; rw [← e_df]; simp only [upM_self]) ?_
  refine u_lv (lv' := [(0, .ref (adr G (5, 0, 0))), (1, .ref (adr G (9, 0, 0)))]) [0, 1] rfl ?_
  refine u_aload_n (pc := 0) F dX5_readClause_0 1 rfl rfl ?_
  refine u_aload_n (pc := 1) F dX5_readClause_1 0 rfl rfl ?_
  refine u_get (v := rd 0 2) (pc := 2) F dX5_readClause_2 (hL 5 0 0 (by decide) rfl) ck_5 fl_5_25 rfl (by decide) (congrFun (congrFun ((upM_ne (by decide)).trans (upM_same _ _ _ _)) 0) 2) ?_
  obtain ⟨q1, hq1, h⟩ := d_bd_some h
  refine u_calli (pc := 5) F (As := [.int (rd 0 2)]) (c_X9_letterAt G hL (rd 0 2) (upM (upM σ 5 0 rd) 4 1 df) tx ((show (upM (upM σ 5 0 rd) 4 1 df) 9 0 = tx from e_tx)) q1 hq1) yv_X9_letterAt ml_5_47 (hL 9 0 0 (by decide) rfl) rfl (by decide) rfl rfl (Nat.le_of_ble_eq_true rfl) dX5_readClause_5 ?_
  refine u_istore_n (lv' := [(2, .int q1), (0, .ref (adr G (5, 0, 0))), (1, .ref (adr G (9, 0, 0)))]) (pc := 8) F dX5_readClause_8 rfl hY (by decide) rfl ?_
  refine u_aload_n (pc := 9) F dX5_readClause_9 1 rfl rfl ?_
  refine u_iload_n (pc := 10) F dX5_readClause_10 0 rfl rfl ?_
  obtain ⟨q2, hq2, h⟩ := d_bd_some h
  refine u_calli (pc := 11) F (As := [.int q1]) (c_X5_faultOfWord G hL q1 (upM (upM σ 5 0 rd) 4 1 df) df (upM_same _ _ _ _) q2 hq2) yv_X5_faultOfWord ml_5_51 (hL 5 0 0 (by decide) rfl) rfl (by decide) rfl rfl (Nat.le_of_ble_eq_true rfl) dX5_readClause_11 ?_
  refine u_istore_n (lv' := [(3, .int q2), (2, .int q1), (0, .ref (adr G (5, 0, 0))), (1, .ref (adr G (9, 0, 0)))]) (pc := 14) F dX5_readClause_14 rfl hY (by decide) rfl ?_
  refine u_iload_n (pc := 15) F dX5_readClause_15 0 rfl rfl ?_
  refine u_if_eq (pc := 16) F 29 dX5_readClause_16 (by decide) (fun c3 => ?_) (fun c3 => ?_)
  · rw [if_pos c3] at h
    refine u_aload_n (pc := 29) F dX5_readClause_29 2 rfl rfl ?_
    refine u_dup (pc := 30) F dX5_readClause_30 rfl ?_
    refine u_get (v := rd 0 2) (pc := 31) F dX5_readClause_31 (hL 5 0 0 (by decide) rfl) ck_5 fl_5_25 rfl (by decide) (congrFun (congrFun ((upM_ne (by decide)).trans (upM_same _ _ _ _)) 0) 2) ?_
    refine u_iconst (v := 1) (pc := 34) F dX5_readClause_34 (by decide) ?_
    refine u_iadd (pc := 35) F dX5_readClause_35 ?_
    refine u_put (pc := 36) F dX5_readClause_36 (hL 5 0 0 (by decide) rfl) ck_5 fl_5_25 rfl (by decide) rfl (ty0 := .int) (by decide +kernel) rfl rfl ?_
    refine u_mem (σ2 := (upM (upM σ 5 0 (wr rd 0 2 ((rd 0 2) + (1 : Int32)))) 4 1 df)) (by rw [show (upM (upM σ 5 0 rd) 4 1 df) 5 0 = rd from ((upM_ne (by decide)).trans (upM_same _ _ _ _))]; first | (rw [upM_upM]; done) | (rw [upM_mid _ _ _ _ (by decide)]; done)) ?_
    obtain ⟨g4, hg4, h⟩ := d_lt_some h
    refine u_mem (σ2 := (upM (upM σ 5 0 g4) 4 1 df)) (by rw [hg4]) ?_
    refine u_iload_n (pc := 39) F dX5_readClause_39 1 rfl rfl ?_
    refine u_bipush (v := 101) (pc := 40) F dX5_readClause_40 (by decide) ?_
    refine u_icmp_ne (pc := 42) F 59 dX5_readClause_42 (by decide) (fun c5 => ?_) (fun c5 => ?_)
    · rw [if_neg c5] at h
      refine u_iload_n (pc := 59) F dX5_readClause_59 1 rfl rfl ?_
      refine u_bipush (v := 103) (pc := 60) F dX5_readClause_60 (by decide) ?_
      refine u_icmp_ne (pc := 62) F 79 dX5_readClause_62 (by decide) (fun c6 => ?_) (fun c6 => ?_)
      · rw [if_neg c6] at h
        refine u_aload_n (pc := 79) F dX5_readClause_79 2 rfl rfl ?_
        refine u_aload_n (pc := 80) F dX5_readClause_80 3 rfl rfl ?_
        refine u_stat (pc := 81) F dX5_readClause_81 5 (by decide) sl_5_74 ?_
        refine u_stat (pc := 84) F dX5_readClause_84 4 (by decide) sl_5_77 ?_
        obtain ⟨q7, hq7, h⟩ := d_bd_some h
        refine u_callv (pc := 87) F (As := [.ref (adr G (9, 0, 0)), .ref (G.2.2.2.2.2 5), .ref (G.2.2.2.2.2 4)]) (c_X5_readNumbers G hL 5 (by decide) 4 (by decide) (upM (upM σ 5 0 g4) 4 1 df) g4 tx (((upM_ne (by decide)).trans (upM_same _ _ _ _))) ((show (upM (upM σ 5 0 g4) 4 1 df) 9 0 = tx from e_tx)) q7 hq7) yv_X5_readNumbers ml_5_64 (hL 5 0 0 (by decide) rfl) rfl (by decide) rfl rfl (Nat.le_of_ble_eq_true rfl) dX5_readClause_87 ?_
        refine u_mem (σ2 := (upM (upM σ 5 0 q7) 4 1 df)) (by first | (rw [upM_upM]; done) | (rw [upM_mid _ _ _ _ (by decide)]; done) | (rw [upM_mid _ _ _ _ (by decide), upM_upM]; done) | (rw [upM_mid _ _ _ _ (by decide), upM_mid _ _ _ _ (by decide)]; done)) ?_
        refine u_lv (lv' := [(0, .ref (adr G (5, 0, 0))), (1, .ref (adr G (9, 0, 0))), (2, .int q1)]) [2, 3, 1] rfl ?_
        exact wX5_readClause_90 Y G hL σ tx e_tx F hY rd' df' hR q7 df q1 h
      · rw [if_pos c6] at h
        refine u_aload_n (pc := 65) F dX5_readClause_65 2 rfl rfl ?_
        refine u_aload_n (pc := 66) F dX5_readClause_66 3 rfl rfl ?_
        refine u_stat (pc := 67) F dX5_readClause_67 3 (by decide) sl_5_68 ?_
        refine u_stat (pc := 70) F dX5_readClause_70 2 (by decide) sl_5_71 ?_
        obtain ⟨q11, hq11, h⟩ := d_bd_some h
        refine u_callv (pc := 73) F (As := [.ref (adr G (9, 0, 0)), .ref (G.2.2.2.2.2 3), .ref (G.2.2.2.2.2 2)]) (c_X5_readNumbers G hL 3 (by decide) 2 (by decide) (upM (upM σ 5 0 g4) 4 1 df) g4 tx (((upM_ne (by decide)).trans (upM_same _ _ _ _))) ((show (upM (upM σ 5 0 g4) 4 1 df) 9 0 = tx from e_tx)) q11 hq11) yv_X5_readNumbers ml_5_64 (hL 5 0 0 (by decide) rfl) rfl (by decide) rfl rfl (Nat.le_of_ble_eq_true rfl) dX5_readClause_73 ?_
        refine u_mem (σ2 := (upM (upM σ 5 0 q11) 4 1 df)) (by first | (rw [upM_upM]; done) | (rw [upM_mid _ _ _ _ (by decide)]; done) | (rw [upM_mid _ _ _ _ (by decide), upM_upM]; done) | (rw [upM_mid _ _ _ _ (by decide), upM_mid _ _ _ _ (by decide)]; done)) ?_
        refine u_goto (pc := 76) F 90 dX5_readClause_76 (by decide) ?_
        refine u_lv (lv' := [(0, .ref (adr G (5, 0, 0))), (1, .ref (adr G (9, 0, 0))), (2, .int q1)]) [2, 3, 1] rfl ?_
        exact wX5_readClause_90 Y G hL σ tx e_tx F hY rd' df' hR q11 df q1 h
    · rw [if_pos c5] at h
      refine u_aload_n (pc := 45) F dX5_readClause_45 2 rfl rfl ?_
      refine u_aload_n (pc := 46) F dX5_readClause_46 3 rfl rfl ?_
      refine u_stat (pc := 47) F dX5_readClause_47 1 (by decide) sl_5_58 ?_
      refine u_stat (pc := 50) F dX5_readClause_50 0 (by decide) sl_5_61 ?_
      obtain ⟨q12, hq12, h⟩ := d_bd_some h
      refine u_callv (pc := 53) F (As := [.ref (adr G (9, 0, 0)), .ref (G.2.2.2.2.2 1), .ref (G.2.2.2.2.2 0)]) (c_X5_readNumbers G hL 1 (by decide) 0 (by decide) (upM (upM σ 5 0 g4) 4 1 df) g4 tx (((upM_ne (by decide)).trans (upM_same _ _ _ _))) ((show (upM (upM σ 5 0 g4) 4 1 df) 9 0 = tx from e_tx)) q12 hq12) yv_X5_readNumbers ml_5_64 (hL 5 0 0 (by decide) rfl) rfl (by decide) rfl rfl (Nat.le_of_ble_eq_true rfl) dX5_readClause_53 ?_
      refine u_mem (σ2 := (upM (upM σ 5 0 q12) 4 1 df)) (by first | (rw [upM_upM]; done) | (rw [upM_mid _ _ _ _ (by decide)]; done) | (rw [upM_mid _ _ _ _ (by decide), upM_upM]; done) | (rw [upM_mid _ _ _ _ (by decide), upM_mid _ _ _ _ (by decide)]; done)) ?_
      refine u_goto (pc := 56) F 90 dX5_readClause_56 (by decide) ?_
      refine u_lv (lv' := [(0, .ref (adr G (5, 0, 0))), (1, .ref (adr G (9, 0, 0))), (2, .int q1)]) [2, 3, 1] rfl ?_
      exact wX5_readClause_90 Y G hL σ tx e_tx F hY rd' df' hR q12 df q1 h
  · rw [if_neg c3] at h
    refine u_aload_n (pc := 19) F dX5_readClause_19 2 rfl rfl ?_
    refine u_iload_n (pc := 20) F dX5_readClause_20 0 rfl rfl ?_
    refine u_aload_n (pc := 21) F dX5_readClause_21 2 rfl rfl ?_
    refine u_get (v := rd 0 2) (pc := 22) F dX5_readClause_22 (hL 5 0 0 (by decide) rfl) ck_5 fl_5_25 rfl (by decide) (congrFun (congrFun ((upM_ne (by decide)).trans (upM_same _ _ _ _)) 0) 2) ?_
    obtain ⟨q13, hq13, h⟩ := d_bd_some h
    refine u_callv (pc := 25) F (As := [.int q2, .int (rd 0 2)]) (c_X5_fail G hL q2 (rd 0 2) (upM (upM σ 5 0 rd) 4 1 df) rd (((upM_ne (by decide)).trans (upM_same _ _ _ _))) q13 hq13) yv_X5_fail ml_5_54 (hL 5 0 0 (by decide) rfl) rfl (by decide) rfl rfl (Nat.le_of_ble_eq_true rfl) dX5_readClause_25 ?_
    refine u_mem (σ2 := (upM (upM σ 5 0 q13) 4 1 df)) (by first | (rw [upM_upM]; done) | (rw [upM_mid _ _ _ _ (by decide)]; done) | (rw [upM_mid _ _ _ _ (by decide), upM_upM]; done) | (rw [upM_mid _ _ _ _ (by decide), upM_mid _ _ _ _ (by decide)]; done)) ?_
    have h1 := Option.some.inj h
    obtain ⟨hj0, hr0⟩ := Prod.mk.inj h1
    subst hj0
    subst hr0
    exact hR _ _ dX5_readClause_28
/- RollingCodes$Reader.read -/
def fX5_read_29 (tx : Grp) : Nat → Grp → Grp → Int32 → Option (Grp × Grp)
  | 0, _, _, _ => none
  | fu + 1, rd, df, x2 =>
    if x2 < (240 : Int32) then (if (rd 0 2) < (tx 0 1) then (if (rd 0 3) = 0 then (d_bd (fX5_readClause rd df tx) fun q9 => d_bd (fX5_skipBlanks q9.1 tx) fun q10 => d_lt (x2 + (1 : Int32)) fun v11 => fX5_read_29 tx fu q10 q9.2 v11) else (some (rd, df))) else (some (rd, df))) else (some (rd, df))
def fX5_read (rd : Grp) (df : Grp) (tx : Grp) : Option (Grp × Grp) :=
    d_bd (fX4_clear df) fun q1 => d_lt (wr rd 0 2 (0 : Int32)) fun g2 => d_lt (wr g2 0 3 (0 : Int32)) fun g3 => d_lt (wr g3 0 4 (-1 : Int32)) fun g4 => d_bd (fX5_skipBlanks g4 tx) fun q5 => fX5_read_29 tx 1000 q5 q1 (0 : Int32)
set_option maxHeartbeats 4000000 in
set_option maxRecDepth 100000 in
theorem wX5_read_29 (Y : Dy) (G : G0) (hL : In G) (σ : Mem) (tx : Grp) (e_tx : σ 9 0 = tx) (F : Fx Y G cX5_read RX5 6) (hY : Y.2.2.2.2.2.2.2.2.2.2.2.1 = 3) (rd' : Grp) (df' : Grp) (hR : ∀ (pc : Nat) (lv : List (Nat × Value)), decode cX5_read pc = .ok (.return_, 1) → U Y G (upM (upM σ 5 0 (rd')) 4 1 (df')) pc lv []) :
    ∀ (fu : Nat) (rd : Grp) (df : Grp) (x2 : Int32), fX5_read_29 tx fu rd df x2 = some (rd', df') → U Y G (upM (upM σ 5 0 rd) 4 1 df) 29 [(0, .ref (adr G (5, 0, 0))), (1, .ref (adr G (9, 0, 0))), (2, .int x2)] [] := by
  intro fu
  induction fu with
  | zero =>
    intro rd df x2 h
    rw [fX5_read_29] at h
    cases h
  | succ fu ih =>
    intro rd df x2 h
    rw [fX5_read_29] at h
    refine u_iload_n (pc := 29) F dX5_read_29 2 rfl rfl ?_
    refine u_sipush (v := 240) (pc := 30) F dX5_read_30 (by decide) ?_
    refine u_icmp_ge (pc := 33) F 70 dX5_read_33 (by decide) (fun c6 => ?_) (fun c6 => ?_)
    · rw [if_neg c6] at h
      have h1 := Option.some.inj h
      obtain ⟨hj0, hr0⟩ := Prod.mk.inj h1
      subst hj0
      subst hr0
      exact hR _ _ dX5_read_70
    · rw [if_pos c6] at h
      refine u_aload_n (pc := 36) F dX5_read_36 0 rfl rfl ?_
      refine u_get (v := rd 0 2) (pc := 37) F dX5_read_37 (hL 5 0 0 (by decide) rfl) ck_5 fl_5_25 rfl (by decide) (congrFun (congrFun ((upM_ne (by decide)).trans (upM_same _ _ _ _)) 0) 2) ?_
      refine u_aload_n (pc := 40) F dX5_read_40 1 rfl rfl ?_
      refine u_get (v := tx 0 1) (pc := 41) F dX5_read_41 (hL 9 0 0 (by decide) rfl) ck_9 fl_5_39 rfl (by decide) (congrFun (congrFun (show (upM (upM σ 5 0 rd) 4 1 df) 9 0 = tx from e_tx) 0) 1) ?_
      refine u_icmp_ge (pc := 44) F 70 dX5_read_44 (by decide) (fun c7 => ?_) (fun c7 => ?_)
      · rw [if_neg c7] at h
        have h1 := Option.some.inj h
        obtain ⟨hj0, hr0⟩ := Prod.mk.inj h1
        subst hj0
        subst hr0
        exact hR _ _ dX5_read_70
      · rw [if_pos c7] at h
        refine u_aload_n (pc := 47) F dX5_read_47 0 rfl rfl ?_
        refine u_get (v := rd 0 3) (pc := 48) F dX5_read_48 (hL 5 0 0 (by decide) rfl) ck_5 fl_5_29 rfl (by decide) (congrFun (congrFun ((upM_ne (by decide)).trans (upM_same _ _ _ _)) 0) 3) ?_
        refine u_if_ne (pc := 51) F 70 dX5_read_51 (by decide) (fun c8 => ?_) (fun c8 => ?_)
        · rw [if_neg c8] at h
          have h1 := Option.some.inj h
          obtain ⟨hj0, hr0⟩ := Prod.mk.inj h1
          subst hj0
          subst hr0
          exact hR _ _ dX5_read_70
        · rw [if_pos c8] at h
          refine u_aload_n (pc := 54) F dX5_read_54 0 rfl rfl ?_
          refine u_aload_n (pc := 55) F dX5_read_55 1 rfl rfl ?_
          obtain ⟨q9, hq9, h⟩ := d_bd_some h
          refine u_callv (pc := 56) F (As := [.ref (adr G (9, 0, 0))]) (c_X5_readClause G hL (upM (upM σ 5 0 rd) 4 1 df) rd df tx (((upM_ne (by decide)).trans (upM_same _ _ _ _))) (upM_same _ _ _ _) ((show (upM (upM σ 5 0 rd) 4 1 df) 9 0 = tx from e_tx)) q9.1 q9.2 hq9) yv_X5_readClause ml_5_44 (hL 5 0 0 (by decide) rfl) rfl (by decide) rfl rfl (Nat.le_of_ble_eq_true rfl) dX5_read_56 ?_
          refine u_mem (σ2 := (upM (upM σ 5 0 q9.1) 4 1 q9.2)) (by first | (rw [upM_upM]; done) | (rw [upM_mid _ _ _ _ (by decide)]; done) | (rw [upM_mid _ _ _ _ (by decide), upM_upM]; done) | (rw [upM_mid _ _ _ _ (by decide), upM_mid _ _ _ _ (by decide)]; done)) ?_
          refine u_aload_n (pc := 59) F dX5_read_59 0 rfl rfl ?_
          refine u_aload_n (pc := 60) F dX5_read_60 1 rfl rfl ?_
          obtain ⟨q10, hq10, h⟩ := d_bd_some h
          refine u_callv (pc := 61) F (As := [.ref (adr G (9, 0, 0))]) (c_X5_skipBlanks G hL (upM (upM σ 5 0 q9.1) 4 1 q9.2) q9.1 tx (((upM_ne (by decide)).trans (upM_same _ _ _ _))) ((show (upM (upM σ 5 0 q9.1) 4 1 q9.2) 9 0 = tx from e_tx)) q10 hq10) yv_X5_skipBlanks ml_5_35 (hL 5 0 0 (by decide) rfl) rfl (by decide) rfl rfl (Nat.le_of_ble_eq_true rfl) dX5_read_61 ?_
          refine u_mem (σ2 := (upM (upM σ 5 0 q10) 4 1 q9.2)) (by first | (rw [upM_upM]; done) | (rw [upM_mid _ _ _ _ (by decide)]; done) | (rw [upM_mid _ _ _ _ (by decide), upM_upM]; done) | (rw [upM_mid _ _ _ _ (by decide), upM_mid _ _ _ _ (by decide)]; done)) ?_
          obtain ⟨v11, hv11, h⟩ := d_lt_some h
          refine u_iinc (lv' := [(2, .int v11), (0, .ref (adr G (5, 0, 0))), (1, .ref (adr G (9, 0, 0)))]) (pc := 64) F dX5_read_64 2 rfl hv11.symm hY (by decide) rfl ?_
          refine u_goto (pc := 67) F 29 dX5_read_67 (by decide) ?_
          refine u_lv (lv' := [(0, .ref (adr G (5, 0, 0))), (1, .ref (adr G (9, 0, 0))), (2, .int v11)]) [1, 2, 0] rfl ?_
          exact ih q10 q9.2 v11 h
set_option maxHeartbeats 4000000 in
set_option maxRecDepth 100000 in
theorem c_X5_read (G : G0) (hL : In G) (σ : Mem) (rd : Grp) (df : Grp) (tx : Grp) (e_rd : σ 5 0 = rd) (e_df : σ 4 1 = df) (e_tx : σ 9 0 = tx) (rd' : Grp) (df' : Grp) (h : fX5_read rd df tx = some (rd', df')) :
    CV G yX5_read cX5_read 3 6 [.ref (adr G (5, 0, 0)), .ref (adr G (9, 0, 0))] σ (upM (upM σ 5 0 (rd')) 4 1 (df')) := by
  refine CV.of (by decide +kernel) (Nat.le_of_ble_eq_true rfl) (fun Y hY F hR => ?_)
  unfold fX5_read at h
  have F : Fx Y G cX5_read RX5 6 := F
  refine u_mem (σ2 := (upM (upM σ 5 0 rd) 4 1 df)) (by rw [← e_rd]; rw [← e_df]; simp only [upM_self]) ?_
  refine u_lv (lv' := [(0, .ref (adr G (5, 0, 0))), (1, .ref (adr G (9, 0, 0)))]) [0, 1] rfl ?_
  refine u_aload_n (pc := 0) F dX5_read_0 0 rfl rfl ?_
  refine u_getO (pc := 1) F dX5_read_1 (hL 5 0 0 (by decide) rfl) ck_5 fl_5_12 rfl (by decide) rfl ?_
  obtain ⟨q1, hq1, h⟩ := d_bd_some h
  refine u_callv (pc := 4) F (As := []) (c_X4_clear G hL 1 (by decide) (upM (upM σ 5 0 rd) 4 1 df) df (upM_same _ _ _ _) q1 hq1) yv_X4_clear ml_5_22 (hL 4 1 0 (by decide) rfl) rfl (by decide) rfl rfl (Nat.le_of_ble_eq_true rfl) dX5_read_4 ?_
  refine u_mem (σ2 := (upM (upM σ 5 0 rd) 4 1 q1)) (by first | (rw [upM_upM]; done) | (rw [upM_mid _ _ _ _ (by decide)]; done) | (rw [upM_mid _ _ _ _ (by decide), upM_upM]; done) | (rw [upM_mid _ _ _ _ (by decide), upM_mid _ _ _ _ (by decide)]; done)) ?_
  refine u_aload_n (pc := 7) F dX5_read_7 0 rfl rfl ?_
  refine u_iconst (v := 0) (pc := 8) F dX5_read_8 (by decide) ?_
  refine u_put (pc := 9) F dX5_read_9 (hL 5 0 0 (by decide) rfl) ck_5 fl_5_25 rfl (by decide) rfl (ty0 := .int) (by decide +kernel) rfl rfl ?_
  refine u_mem (σ2 := (upM (upM σ 5 0 (wr rd 0 2 (0 : Int32))) 4 1 q1)) (by rw [show (upM (upM σ 5 0 rd) 4 1 q1) 5 0 = rd from ((upM_ne (by decide)).trans (upM_same _ _ _ _))]; first | (rw [upM_upM]; done) | (rw [upM_mid _ _ _ _ (by decide)]; done)) ?_
  obtain ⟨g2, hg2, h⟩ := d_lt_some h
  refine u_mem (σ2 := (upM (upM σ 5 0 g2) 4 1 q1)) (by rw [hg2]) ?_
  refine u_aload_n (pc := 12) F dX5_read_12 0 rfl rfl ?_
  refine u_iconst (v := 0) (pc := 13) F dX5_read_13 (by decide) ?_
  refine u_put (pc := 14) F dX5_read_14 (hL 5 0 0 (by decide) rfl) ck_5 fl_5_29 rfl (by decide) rfl (ty0 := .int) (by decide +kernel) rfl rfl ?_
  refine u_mem (σ2 := (upM (upM σ 5 0 (wr g2 0 3 (0 : Int32))) 4 1 q1)) (by rw [show (upM (upM σ 5 0 g2) 4 1 q1) 5 0 = g2 from ((upM_ne (by decide)).trans (upM_same _ _ _ _))]; first | (rw [upM_upM]; done) | (rw [upM_mid _ _ _ _ (by decide)]; done)) ?_
  obtain ⟨g3, hg3, h⟩ := d_lt_some h
  refine u_mem (σ2 := (upM (upM σ 5 0 g3) 4 1 q1)) (by rw [hg3]) ?_
  refine u_aload_n (pc := 17) F dX5_read_17 0 rfl rfl ?_
  refine u_iconst (v := -1) (pc := 18) F dX5_read_18 (by decide) ?_
  refine u_put (pc := 19) F dX5_read_19 (hL 5 0 0 (by decide) rfl) ck_5 fl_5_32 rfl (by decide) rfl (ty0 := .int) (by decide +kernel) rfl rfl ?_
  refine u_mem (σ2 := (upM (upM σ 5 0 (wr g3 0 4 (-1 : Int32))) 4 1 q1)) (by rw [show (upM (upM σ 5 0 g3) 4 1 q1) 5 0 = g3 from ((upM_ne (by decide)).trans (upM_same _ _ _ _))]; first | (rw [upM_upM]; done) | (rw [upM_mid _ _ _ _ (by decide)]; done)) ?_
  obtain ⟨g4, hg4, h⟩ := d_lt_some h
  refine u_mem (σ2 := (upM (upM σ 5 0 g4) 4 1 q1)) (by rw [hg4]) ?_
  refine u_aload_n (pc := 22) F dX5_read_22 0 rfl rfl ?_
  refine u_aload_n (pc := 23) F dX5_read_23 1 rfl rfl ?_
  obtain ⟨q5, hq5, h⟩ := d_bd_some h
  refine u_callv (pc := 24) F (As := [.ref (adr G (9, 0, 0))]) (c_X5_skipBlanks G hL (upM (upM σ 5 0 g4) 4 1 q1) g4 tx (((upM_ne (by decide)).trans (upM_same _ _ _ _))) ((show (upM (upM σ 5 0 g4) 4 1 q1) 9 0 = tx from e_tx)) q5 hq5) yv_X5_skipBlanks ml_5_35 (hL 5 0 0 (by decide) rfl) rfl (by decide) rfl rfl (Nat.le_of_ble_eq_true rfl) dX5_read_24 ?_
  refine u_mem (σ2 := (upM (upM σ 5 0 q5) 4 1 q1)) (by first | (rw [upM_upM]; done) | (rw [upM_mid _ _ _ _ (by decide)]; done) | (rw [upM_mid _ _ _ _ (by decide), upM_upM]; done) | (rw [upM_mid _ _ _ _ (by decide), upM_mid _ _ _ _ (by decide)]; done)) ?_
  refine u_iconst (v := 0) (pc := 27) F dX5_read_27 (by decide) ?_
  refine u_istore_n (lv' := [(2, .int (0 : Int32)), (0, .ref (adr G (5, 0, 0))), (1, .ref (adr G (9, 0, 0)))]) (pc := 28) F dX5_read_28 rfl hY (by decide) rfl ?_
  refine u_lv (lv' := [(0, .ref (adr G (5, 0, 0))), (1, .ref (adr G (9, 0, 0))), (2, .int (0 : Int32))]) [1, 2, 0] rfl ?_
  exact wX5_read_29 Y G hL σ tx e_tx F hY rd' df' hR 1000 q5 q1 (0 : Int32) h
/- RollingCodes$Text.clear -/
def fX9_clear (tx : Grp) : Option (Grp) :=
    d_lt (wr tx 0 1 (0 : Int32)) fun g1 => some g1
set_option maxHeartbeats 4000000 in
set_option maxRecDepth 100000 in
theorem c_X9_clear (G : G0) (hL : In G) (σ : Mem) (tx : Grp) (e_tx : σ 9 0 = tx) (tx' : Grp) (h : fX9_clear tx = some tx') :
    CV G yX9_clear cX9_clear 1 1 [.ref (adr G (9, 0, 0))] σ (upM σ 9 0 (tx')) := by
  refine CV.of (by decide +kernel) (Nat.le_of_ble_eq_true rfl) (fun Y hY F hR => ?_)
  unfold fX9_clear at h
  have F : Fx Y G cX9_clear RX9 1 := F
  refine u_mem (σ2 := (upM σ 9 0 tx)) (by rw [← e_tx]; simp only [upM_self]) ?_
  refine u_lv (lv' := [(0, .ref (adr G (9, 0, 0)))]) [0] rfl ?_
  refine u_aload_n (pc := 0) F dX9_clear_0 0 rfl rfl ?_
  refine u_iconst (v := 0) (pc := 1) F dX9_clear_1 (by decide) ?_
  refine u_put1 (pc := 2) F dX9_clear_2 (hL 9 0 0 (by decide) rfl) ck_9 fl_9_15 rfl (by decide) rfl (ty0 := .int) (by decide +kernel) rfl rfl ?_
  obtain ⟨g1, hg1, h⟩ := d_lt_some h
  refine u_mem (σ2 := (upM σ 9 0 g1)) (by rw [hg1]) ?_
  have h1 := Option.some.inj h
  subst h1
  exact hR _ _ dX9_clear_5
/- RollingCodes$Plan.copyFrom -/
def fX4_copyFrom (pl : Grp) (pd : Grp) : Option (Grp) :=
    d_zb (pd 0 0) <| d_lt (wr pl 0 0 (pd 0 0)) fun g2 => d_lt (wr g2 0 1 (pd 0 1)) fun g3 => d_lt (wr g3 0 2 (pd 0 2)) fun g4 => d_lt (wr g4 0 3 (pd 0 3)) fun g5 => d_lt (wr g5 0 4 (pd 0 4)) fun g6 => d_lt (wa g6 6 (va_cpy (pd 6) (g6 6) (0 : Int32).toNatClampNeg (0 : Int32).toNatClampNeg (4 : Int32).toNatClampNeg)) fun g7 => d_lt (wa g7 7 (va_cpy (pd 7) (g7 7) (0 : Int32).toNatClampNeg (0 : Int32).toNatClampNeg (4 : Int32).toNatClampNeg)) fun g8 => d_lt (wa g8 8 (va_cpy (pd 8) (g8 8) (0 : Int32).toNatClampNeg (0 : Int32).toNatClampNeg (4 : Int32).toNatClampNeg)) fun g9 => d_lt (wa g9 9 (va_cpy (pd 9) (g9 9) (0 : Int32).toNatClampNeg (0 : Int32).toNatClampNeg (5 : Int32).toNatClampNeg)) fun g10 => d_lt (wa g10 10 (va_cpy (pd 10) (g10 10) (0 : Int32).toNatClampNeg (0 : Int32).toNatClampNeg (5 : Int32).toNatClampNeg)) fun g11 => d_lt (wa g11 11 (va_cpy (pd 11) (g11 11) (0 : Int32).toNatClampNeg (0 : Int32).toNatClampNeg (5 : Int32).toNatClampNeg)) fun g12 => d_lt (wa g12 12 (va_cpy (pd 12) (g12 12) (0 : Int32).toNatClampNeg (0 : Int32).toNatClampNeg (5 : Int32).toNatClampNeg)) fun g13 => d_lt (wa g13 13 (va_cpy (pd 13) (g13 13) (0 : Int32).toNatClampNeg (0 : Int32).toNatClampNeg (5 : Int32).toNatClampNeg)) fun g14 => some g14
set_option maxHeartbeats 4000000 in
set_option maxRecDepth 100000 in
theorem c_X4_copyFrom (G : G0) (hL : In G) (k : Nat) (h_k : k < 2) (k2 : Nat) (h_k2 : k2 < 2) (hne : ¬ k2 = k) (σ : Mem) (pl : Grp) (pd : Grp) (e_pl : σ 4 k = pl) (e_pd : σ 4 k2 = pd) (pl' : Grp) (h : fX4_copyFrom pl pd = some pl') :
    CV G yX4_copyFrom cX4_copyFrom 2 1 [.ref (adr G (4, k, 0)), .ref (adr G (4, k2, 0))] σ (upM σ 4 k (pl')) := by
  refine CV.of (by decide +kernel) (Nat.le_of_ble_eq_true rfl) (fun Y hY F hR => ?_)
  unfold fX4_copyFrom at h
  have F : Fx Y G cX4_copyFrom RX4 1 := F
  refine u_mem (σ2 := (upM σ 4 k pl)) (by rw [← e_pl]; simp only [upM_self]) ?_
  refine u_lv (lv' := [(0, .ref (adr G (4, k, 0))), (1, .ref (adr G (4, k2, 0)))]) [0, 1] rfl ?_
  refine u_aload_n (pc := 0) F dX4_copyFrom_0 0 rfl rfl ?_
  refine u_aload_n (pc := 1) F dX4_copyFrom_1 1 rfl rfl ?_
  refine u_get (v := pd 0 0) (pc := 2) F dX4_copyFrom_2 (hL 4 k2 0 h_k2 rfl) ck_4 fl_4_36 rfl (by decide) (congrFun (congrFun ((upM_ne (fun e => hne e.2)).trans e_pd) 0) 0) ?_
  obtain ⟨c1, h⟩ := d_zb_some h
  refine u_put1 (pc := 5) F dX4_copyFrom_5 (hL 4 k 0 h_k rfl) ck_4 fl_4_36 rfl (by decide) rfl (ty0 := .boolean) (by decide +kernel) (nar_zb c1) (fit_zb c1) ?_
  obtain ⟨g2, hg2, h⟩ := d_lt_some h
  refine u_mem (σ2 := (upM σ 4 k g2)) (by rw [hg2]) ?_
  refine u_aload_n (pc := 8) F dX4_copyFrom_8 0 rfl rfl ?_
  refine u_aload_n (pc := 9) F dX4_copyFrom_9 1 rfl rfl ?_
  refine u_get (v := pd 0 1) (pc := 10) F dX4_copyFrom_10 (hL 4 k2 0 h_k2 rfl) ck_4 fl_4_40 rfl (by decide) (congrFun (congrFun ((upM_ne (fun e => hne e.2)).trans e_pd) 0) 1) ?_
  refine u_put1 (pc := 13) F dX4_copyFrom_13 (hL 4 k 0 h_k rfl) ck_4 fl_4_40 rfl (by decide) rfl (ty0 := .int) (by decide +kernel) rfl rfl ?_
  obtain ⟨g3, hg3, h⟩ := d_lt_some h
  refine u_mem (σ2 := (upM σ 4 k g3)) (by rw [hg3]) ?_
  refine u_aload_n (pc := 16) F dX4_copyFrom_16 0 rfl rfl ?_
  refine u_aload_n (pc := 17) F dX4_copyFrom_17 1 rfl rfl ?_
  refine u_get (v := pd 0 2) (pc := 18) F dX4_copyFrom_18 (hL 4 k2 0 h_k2 rfl) ck_4 fl_4_44 rfl (by decide) (congrFun (congrFun ((upM_ne (fun e => hne e.2)).trans e_pd) 0) 2) ?_
  refine u_put1 (pc := 21) F dX4_copyFrom_21 (hL 4 k 0 h_k rfl) ck_4 fl_4_44 rfl (by decide) rfl (ty0 := .int) (by decide +kernel) rfl rfl ?_
  obtain ⟨g4, hg4, h⟩ := d_lt_some h
  refine u_mem (σ2 := (upM σ 4 k g4)) (by rw [hg4]) ?_
  refine u_aload_n (pc := 24) F dX4_copyFrom_24 0 rfl rfl ?_
  refine u_aload_n (pc := 25) F dX4_copyFrom_25 1 rfl rfl ?_
  refine u_get (v := pd 0 3) (pc := 26) F dX4_copyFrom_26 (hL 4 k2 0 h_k2 rfl) ck_4 fl_4_47 rfl (by decide) (congrFun (congrFun ((upM_ne (fun e => hne e.2)).trans e_pd) 0) 3) ?_
  refine u_put1 (pc := 29) F dX4_copyFrom_29 (hL 4 k 0 h_k rfl) ck_4 fl_4_47 rfl (by decide) rfl (ty0 := .int) (by decide +kernel) rfl rfl ?_
  obtain ⟨g5, hg5, h⟩ := d_lt_some h
  refine u_mem (σ2 := (upM σ 4 k g5)) (by rw [hg5]) ?_
  refine u_aload_n (pc := 32) F dX4_copyFrom_32 0 rfl rfl ?_
  refine u_aload_n (pc := 33) F dX4_copyFrom_33 1 rfl rfl ?_
  refine u_get (v := pd 0 4) (pc := 34) F dX4_copyFrom_34 (hL 4 k2 0 h_k2 rfl) ck_4 fl_4_50 rfl (by decide) (congrFun (congrFun ((upM_ne (fun e => hne e.2)).trans e_pd) 0) 4) ?_
  refine u_put1 (pc := 37) F dX4_copyFrom_37 (hL 4 k 0 h_k rfl) ck_4 fl_4_50 rfl (by decide) rfl (ty0 := .int) (by decide +kernel) rfl rfl ?_
  obtain ⟨g6, hg6, h⟩ := d_lt_some h
  refine u_mem (σ2 := (upM σ 4 k g6)) (by rw [hg6]) ?_
  refine u_aload_n (pc := 40) F dX4_copyFrom_40 1 rfl rfl ?_
  refine u_getA (pc := 41) F dX4_copyFrom_41 (hL 4 k2 0 h_k2 rfl) ck_4 fl_4_9 rfl (by decide) (by decide) ?_
  refine u_iconst (v := 0) (pc := 44) F dX4_copyFrom_44 (by decide) ?_
  refine u_aload_n (pc := 45) F dX4_copyFrom_45 0 rfl rfl ?_
  refine u_getA (pc := 46) F dX4_copyFrom_46 (hL 4 k 0 h_k rfl) ck_4 fl_4_9 rfl (by decide) (by decide) ?_
  refine u_iconst (v := 0) (pc := 49) F dX4_copyFrom_49 (by decide) ?_
  refine u_iconst (v := 4) (pc := 50) F dX4_copyFrom_50 (by decide) ?_
  refine u_copy (pc := 51) F (hL 4 k2 6 h_k2 rfl) rfl (hL 4 k 6 h_k rfl) rfl mk_4_53 ac_n ac_s ac_i (by decide) (by decide) (by decide) (by decide) (by decide) (by decide) (Nat.le_of_ble_eq_true rfl) dX4_copyFrom_51 ?_
  refine u_mem (σ2 := (upM σ 4 k (wa g6 6 (va_cpy (pd 6) (g6 6) (0 : Int32).toNatClampNeg (0 : Int32).toNatClampNeg (4 : Int32).toNatClampNeg)))) (by rw [show (upM σ 4 k g6) 4 k = g6 from upM_same _ _ _ _, show (upM σ 4 k g6) 4 k2 = pd from ((upM_ne (fun e => hne e.2)).trans e_pd), upM_upM]) ?_
  obtain ⟨g7, hg7, h⟩ := d_lt_some h
  refine u_mem (σ2 := (upM σ 4 k g7)) (by rw [hg7]) ?_
  refine u_aload_n (pc := 54) F dX4_copyFrom_54 1 rfl rfl ?_
  refine u_getA (pc := 55) F dX4_copyFrom_55 (hL 4 k2 0 h_k2 rfl) ck_4 fl_4_15 rfl (by decide) (by decide) ?_
  refine u_iconst (v := 0) (pc := 58) F dX4_copyFrom_58 (by decide) ?_
  refine u_aload_n (pc := 59) F dX4_copyFrom_59 0 rfl rfl ?_
  refine u_getA (pc := 60) F dX4_copyFrom_60 (hL 4 k 0 h_k rfl) ck_4 fl_4_15 rfl (by decide) (by decide) ?_
  refine u_iconst (v := 0) (pc := 63) F dX4_copyFrom_63 (by decide) ?_
  refine u_iconst (v := 4) (pc := 64) F dX4_copyFrom_64 (by decide) ?_
  refine u_copy (pc := 65) F (hL 4 k2 7 h_k2 rfl) rfl (hL 4 k 7 h_k rfl) rfl mk_4_53 ac_n ac_s ac_i (by decide) (by decide) (by decide) (by decide) (by decide) (by decide) (Nat.le_of_ble_eq_true rfl) dX4_copyFrom_65 ?_
  refine u_mem (σ2 := (upM σ 4 k (wa g7 7 (va_cpy (pd 7) (g7 7) (0 : Int32).toNatClampNeg (0 : Int32).toNatClampNeg (4 : Int32).toNatClampNeg)))) (by rw [show (upM σ 4 k g7) 4 k = g7 from upM_same _ _ _ _, show (upM σ 4 k g7) 4 k2 = pd from ((upM_ne (fun e => hne e.2)).trans e_pd), upM_upM]) ?_
  obtain ⟨g8, hg8, h⟩ := d_lt_some h
  refine u_mem (σ2 := (upM σ 4 k g8)) (by rw [hg8]) ?_
  refine u_aload_n (pc := 68) F dX4_copyFrom_68 1 rfl rfl ?_
  refine u_getA (pc := 69) F dX4_copyFrom_69 (hL 4 k2 0 h_k2 rfl) ck_4 fl_4_18 rfl (by decide) (by decide) ?_
  refine u_iconst (v := 0) (pc := 72) F dX4_copyFrom_72 (by decide) ?_
  refine u_aload_n (pc := 73) F dX4_copyFrom_73 0 rfl rfl ?_
  refine u_getA (pc := 74) F dX4_copyFrom_74 (hL 4 k 0 h_k rfl) ck_4 fl_4_18 rfl (by decide) (by decide) ?_
  refine u_iconst (v := 0) (pc := 77) F dX4_copyFrom_77 (by decide) ?_
  refine u_iconst (v := 4) (pc := 78) F dX4_copyFrom_78 (by decide) ?_
  refine u_copy (pc := 79) F (hL 4 k2 8 h_k2 rfl) rfl (hL 4 k 8 h_k rfl) rfl mk_4_53 ac_n ac_s ac_i (by decide) (by decide) (by decide) (by decide) (by decide) (by decide) (Nat.le_of_ble_eq_true rfl) dX4_copyFrom_79 ?_
  refine u_mem (σ2 := (upM σ 4 k (wa g8 8 (va_cpy (pd 8) (g8 8) (0 : Int32).toNatClampNeg (0 : Int32).toNatClampNeg (4 : Int32).toNatClampNeg)))) (by rw [show (upM σ 4 k g8) 4 k = g8 from upM_same _ _ _ _, show (upM σ 4 k g8) 4 k2 = pd from ((upM_ne (fun e => hne e.2)).trans e_pd), upM_upM]) ?_
  obtain ⟨g9, hg9, h⟩ := d_lt_some h
  refine u_mem (σ2 := (upM σ 4 k g9)) (by rw [hg9]) ?_
  refine u_aload_n (pc := 82) F dX4_copyFrom_82 1 rfl rfl ?_
  refine u_getA (pc := 83) F dX4_copyFrom_83 (hL 4 k2 0 h_k2 rfl) ck_4 fl_4_21 rfl (by decide) (by decide) ?_
  refine u_iconst (v := 0) (pc := 86) F dX4_copyFrom_86 (by decide) ?_
  refine u_aload_n (pc := 87) F dX4_copyFrom_87 0 rfl rfl ?_
  refine u_getA (pc := 88) F dX4_copyFrom_88 (hL 4 k 0 h_k rfl) ck_4 fl_4_21 rfl (by decide) (by decide) ?_
  refine u_iconst (v := 0) (pc := 91) F dX4_copyFrom_91 (by decide) ?_
  refine u_iconst (v := 5) (pc := 92) F dX4_copyFrom_92 (by decide) ?_
  refine u_copy (pc := 93) F (hL 4 k2 9 h_k2 rfl) rfl (hL 4 k 9 h_k rfl) rfl mk_4_53 ac_n ac_s ac_i (by decide) (by decide) (by decide) (by decide) (by decide) (by decide) (Nat.le_of_ble_eq_true rfl) dX4_copyFrom_93 ?_
  refine u_mem (σ2 := (upM σ 4 k (wa g9 9 (va_cpy (pd 9) (g9 9) (0 : Int32).toNatClampNeg (0 : Int32).toNatClampNeg (5 : Int32).toNatClampNeg)))) (by rw [show (upM σ 4 k g9) 4 k = g9 from upM_same _ _ _ _, show (upM σ 4 k g9) 4 k2 = pd from ((upM_ne (fun e => hne e.2)).trans e_pd), upM_upM]) ?_
  obtain ⟨g10, hg10, h⟩ := d_lt_some h
  refine u_mem (σ2 := (upM σ 4 k g10)) (by rw [hg10]) ?_
  refine u_aload_n (pc := 96) F dX4_copyFrom_96 1 rfl rfl ?_
  refine u_getA (pc := 97) F dX4_copyFrom_97 (hL 4 k2 0 h_k2 rfl) ck_4 fl_4_24 rfl (by decide) (by decide) ?_
  refine u_iconst (v := 0) (pc := 100) F dX4_copyFrom_100 (by decide) ?_
  refine u_aload_n (pc := 101) F dX4_copyFrom_101 0 rfl rfl ?_
  refine u_getA (pc := 102) F dX4_copyFrom_102 (hL 4 k 0 h_k rfl) ck_4 fl_4_24 rfl (by decide) (by decide) ?_
  refine u_iconst (v := 0) (pc := 105) F dX4_copyFrom_105 (by decide) ?_
  refine u_iconst (v := 5) (pc := 106) F dX4_copyFrom_106 (by decide) ?_
  refine u_copy (pc := 107) F (hL 4 k2 10 h_k2 rfl) rfl (hL 4 k 10 h_k rfl) rfl mk_4_53 ac_n ac_s ac_i (by decide) (by decide) (by decide) (by decide) (by decide) (by decide) (Nat.le_of_ble_eq_true rfl) dX4_copyFrom_107 ?_
  refine u_mem (σ2 := (upM σ 4 k (wa g10 10 (va_cpy (pd 10) (g10 10) (0 : Int32).toNatClampNeg (0 : Int32).toNatClampNeg (5 : Int32).toNatClampNeg)))) (by rw [show (upM σ 4 k g10) 4 k = g10 from upM_same _ _ _ _, show (upM σ 4 k g10) 4 k2 = pd from ((upM_ne (fun e => hne e.2)).trans e_pd), upM_upM]) ?_
  obtain ⟨g11, hg11, h⟩ := d_lt_some h
  refine u_mem (σ2 := (upM σ 4 k g11)) (by rw [hg11]) ?_
  refine u_aload_n (pc := 110) F dX4_copyFrom_110 1 rfl rfl ?_
  refine u_getA (pc := 111) F dX4_copyFrom_111 (hL 4 k2 0 h_k2 rfl) ck_4 fl_4_27 rfl (by decide) (by decide) ?_
  refine u_iconst (v := 0) (pc := 114) F dX4_copyFrom_114 (by decide) ?_
  refine u_aload_n (pc := 115) F dX4_copyFrom_115 0 rfl rfl ?_
  refine u_getA (pc := 116) F dX4_copyFrom_116 (hL 4 k 0 h_k rfl) ck_4 fl_4_27 rfl (by decide) (by decide) ?_
  refine u_iconst (v := 0) (pc := 119) F dX4_copyFrom_119 (by decide) ?_
  refine u_iconst (v := 5) (pc := 120) F dX4_copyFrom_120 (by decide) ?_
  refine u_copy (pc := 121) F (hL 4 k2 11 h_k2 rfl) rfl (hL 4 k 11 h_k rfl) rfl mk_4_53 ac_n ac_s ac_i (by decide) (by decide) (by decide) (by decide) (by decide) (by decide) (Nat.le_of_ble_eq_true rfl) dX4_copyFrom_121 ?_
  refine u_mem (σ2 := (upM σ 4 k (wa g11 11 (va_cpy (pd 11) (g11 11) (0 : Int32).toNatClampNeg (0 : Int32).toNatClampNeg (5 : Int32).toNatClampNeg)))) (by rw [show (upM σ 4 k g11) 4 k = g11 from upM_same _ _ _ _, show (upM σ 4 k g11) 4 k2 = pd from ((upM_ne (fun e => hne e.2)).trans e_pd), upM_upM]) ?_
  obtain ⟨g12, hg12, h⟩ := d_lt_some h
  refine u_mem (σ2 := (upM σ 4 k g12)) (by rw [hg12]) ?_
  refine u_aload_n (pc := 124) F dX4_copyFrom_124 1 rfl rfl ?_
  refine u_getA (pc := 125) F dX4_copyFrom_125 (hL 4 k2 0 h_k2 rfl) ck_4 fl_4_30 rfl (by decide) (by decide) ?_
  refine u_iconst (v := 0) (pc := 128) F dX4_copyFrom_128 (by decide) ?_
  refine u_aload_n (pc := 129) F dX4_copyFrom_129 0 rfl rfl ?_
  refine u_getA (pc := 130) F dX4_copyFrom_130 (hL 4 k 0 h_k rfl) ck_4 fl_4_30 rfl (by decide) (by decide) ?_
  refine u_iconst (v := 0) (pc := 133) F dX4_copyFrom_133 (by decide) ?_
  refine u_iconst (v := 5) (pc := 134) F dX4_copyFrom_134 (by decide) ?_
  refine u_copy (pc := 135) F (hL 4 k2 12 h_k2 rfl) rfl (hL 4 k 12 h_k rfl) rfl mk_4_53 ac_n ac_s ac_i (by decide) (by decide) (by decide) (by decide) (by decide) (by decide) (Nat.le_of_ble_eq_true rfl) dX4_copyFrom_135 ?_
  refine u_mem (σ2 := (upM σ 4 k (wa g12 12 (va_cpy (pd 12) (g12 12) (0 : Int32).toNatClampNeg (0 : Int32).toNatClampNeg (5 : Int32).toNatClampNeg)))) (by rw [show (upM σ 4 k g12) 4 k = g12 from upM_same _ _ _ _, show (upM σ 4 k g12) 4 k2 = pd from ((upM_ne (fun e => hne e.2)).trans e_pd), upM_upM]) ?_
  obtain ⟨g13, hg13, h⟩ := d_lt_some h
  refine u_mem (σ2 := (upM σ 4 k g13)) (by rw [hg13]) ?_
  refine u_aload_n (pc := 138) F dX4_copyFrom_138 1 rfl rfl ?_
  refine u_getA (pc := 139) F dX4_copyFrom_139 (hL 4 k2 0 h_k2 rfl) ck_4 fl_4_33 rfl (by decide) (by decide) ?_
  refine u_iconst (v := 0) (pc := 142) F dX4_copyFrom_142 (by decide) ?_
  refine u_aload_n (pc := 143) F dX4_copyFrom_143 0 rfl rfl ?_
  refine u_getA (pc := 144) F dX4_copyFrom_144 (hL 4 k 0 h_k rfl) ck_4 fl_4_33 rfl (by decide) (by decide) ?_
  refine u_iconst (v := 0) (pc := 147) F dX4_copyFrom_147 (by decide) ?_
  refine u_iconst (v := 5) (pc := 148) F dX4_copyFrom_148 (by decide) ?_
  refine u_copy (pc := 149) F (hL 4 k2 13 h_k2 rfl) rfl (hL 4 k 13 h_k rfl) rfl mk_4_53 ac_n ac_s ac_i (by decide) (by decide) (by decide) (by decide) (by decide) (by decide) (Nat.le_of_ble_eq_true rfl) dX4_copyFrom_149 ?_
  refine u_mem (σ2 := (upM σ 4 k (wa g13 13 (va_cpy (pd 13) (g13 13) (0 : Int32).toNatClampNeg (0 : Int32).toNatClampNeg (5 : Int32).toNatClampNeg)))) (by rw [show (upM σ 4 k g13) 4 k = g13 from upM_same _ _ _ _, show (upM σ 4 k g13) 4 k2 = pd from ((upM_ne (fun e => hne e.2)).trans e_pd), upM_upM]) ?_
  obtain ⟨g14, hg14, h⟩ := d_lt_some h
  refine u_mem (σ2 := (upM σ 4 k g14)) (by rw [hg14]) ?_
  have h1 := Option.some.inj h
  subst h1
  exact hR _ _ dX4_copyFrom_152
/- RollingCodes$Seen.clear -/
def fX8_clear_2  : Nat → Grp → Int32 → Option (Grp)
  | 0, _, _ => none
  | fu + 1, se, x1 =>
    if x1 < (256 : Int32) then (d_ab x1 256 <| d_lt (wr se 1 x1.toNatClampNeg (1 : Int32)) fun g4 => d_lt (x1 + (1 : Int32)) fun v5 => fX8_clear_2 fu g4 v5) else (d_lt (wr se 0 2 (0 : Int32)) fun g2 => some g2)
def fX8_clear (se : Grp) : Option (Grp) :=
    fX8_clear_2 1000 se (0 : Int32)
set_option maxHeartbeats 4000000 in
set_option maxRecDepth 100000 in
theorem wX8_clear_2 (Y : Dy) (G : G0) (hL : In G) (σ : Mem) (F : Fx Y G cX8_clear RX8 1) (hY : Y.2.2.2.2.2.2.2.2.2.2.2.1 = 2) (se' : Grp) (hR : ∀ (pc : Nat) (lv : List (Nat × Value)), decode cX8_clear pc = .ok (.return_, 1) → U Y G (upM σ 8 0 (se')) pc lv []) :
    ∀ (fu : Nat) (se : Grp) (x1 : Int32), fX8_clear_2 fu se x1 = some se' → U Y G (upM σ 8 0 se) 2 [(0, .ref (adr G (8, 0, 0))), (1, .int x1)] [] := by
  intro fu
  induction fu with
  | zero =>
    intro se x1 h
    rw [fX8_clear_2] at h
    cases h
  | succ fu ih =>
    intro se x1 h
    rw [fX8_clear_2] at h
    refine u_iload_n (pc := 2) F dX8_clear_2 1 rfl rfl ?_
    refine u_sipush (v := 256) (pc := 3) F dX8_clear_3 (by decide) ?_
    refine u_icmp_ge (pc := 6) F 22 dX8_clear_6 (by decide) (fun c1 => ?_) (fun c1 => ?_)
    · rw [if_neg c1] at h
      refine u_aload_n (pc := 22) F dX8_clear_22 0 rfl rfl ?_
      refine u_iconst (v := 0) (pc := 23) F dX8_clear_23 (by decide) ?_
      refine u_put1 (pc := 24) F dX8_clear_24 (hL 8 0 0 (by decide) rfl) ck_8 fl_8_19 rfl (by decide) rfl (ty0 := .int) (by decide +kernel) rfl rfl ?_
      obtain ⟨g2, hg2, h⟩ := d_lt_some h
      refine u_mem (σ2 := (upM σ 8 0 g2)) (by rw [hg2]) ?_
      have h1 := Option.some.inj h
      subst h1
      exact hR _ _ dX8_clear_27
    · rw [if_pos c1] at h
      refine u_aload_n (pc := 9) F dX8_clear_9 0 rfl rfl ?_
      refine u_getA (pc := 10) F dX8_clear_10 (hL 8 0 0 (by decide) rfl) ck_8 fl_8_9 rfl (by decide) (by decide) ?_
      refine u_iload_n (pc := 13) F dX8_clear_13 1 rfl rfl ?_
      refine u_iconst (v := 1) (pc := 14) F dX8_clear_14 (by decide) ?_
      obtain ⟨b3, h⟩ := d_ab_some h
      refine u_astZ1 (pc := 15) F dX8_clear_15 (hL 8 0 1 (by decide) rfl) rfl b3 rfl (v2 := (1 : Int32)) ?_
      obtain ⟨g4, hg4, h⟩ := d_lt_some h
      refine u_mem (σ2 := (upM σ 8 0 g4)) (by rw [hg4]) ?_
      obtain ⟨v5, hv5, h⟩ := d_lt_some h
      refine u_iinc (lv' := [(1, .int v5), (0, .ref (adr G (8, 0, 0)))]) (pc := 16) F dX8_clear_16 1 rfl hv5.symm hY (by decide) rfl ?_
      refine u_goto (pc := 19) F 2 dX8_clear_19 (by decide) ?_
      refine u_lv (lv' := [(0, .ref (adr G (8, 0, 0))), (1, .int v5)]) [1, 0] rfl ?_
      exact ih g4 v5 h
set_option maxHeartbeats 4000000 in
set_option maxRecDepth 100000 in
theorem c_X8_clear (G : G0) (hL : In G) (σ : Mem) (se : Grp) (e_se : σ 8 0 = se) (se' : Grp) (h : fX8_clear se = some se') :
    CV G yX8_clear cX8_clear 2 1 [.ref (adr G (8, 0, 0))] σ (upM σ 8 0 (se')) := by
  refine CV.of (by decide +kernel) (Nat.le_of_ble_eq_true rfl) (fun Y hY F hR => ?_)
  unfold fX8_clear at h
  have F : Fx Y G cX8_clear RX8 1 := F
  refine u_mem (σ2 := (upM σ 8 0 se)) (by rw [← e_se]; simp only [upM_self]) ?_
  refine u_lv (lv' := [(0, .ref (adr G (8, 0, 0)))]) [0] rfl ?_
  refine u_iconst (v := 0) (pc := 0) F dX8_clear_0 (by decide) ?_
  refine u_istore_n (lv' := [(1, .int (0 : Int32)), (0, .ref (adr G (8, 0, 0)))]) (pc := 1) F dX8_clear_1 rfl hY (by decide) rfl ?_
  refine u_lv (lv' := [(0, .ref (adr G (8, 0, 0))), (1, .int (0 : Int32))]) [1, 0] rfl ?_
  exact wX8_clear_2 Y G hL σ F hY se' hR 1000 se (0 : Int32) h
/- RollingCodes$Book.clear -/
def fX0_clear (bk : Grp) : Option (Grp) :=
    d_lt (wr bk 0 2 (0 : Int32)) fun g1 => some g1
set_option maxHeartbeats 4000000 in
set_option maxRecDepth 100000 in
theorem c_X0_clear (G : G0) (hL : In G) (σ : Mem) (bk : Grp) (e_bk : σ 0 0 = bk) (bk' : Grp) (h : fX0_clear bk = some bk') :
    CV G yX0_clear cX0_clear 1 1 [.ref (adr G (0, 0, 0))] σ (upM σ 0 0 (bk')) := by
  refine CV.of (by decide +kernel) (Nat.le_of_ble_eq_true rfl) (fun Y hY F hR => ?_)
  unfold fX0_clear at h
  have F : Fx Y G cX0_clear RX0 1 := F
  refine u_mem (σ2 := (upM σ 0 0 bk)) (by rw [← e_bk]; simp only [upM_self]) ?_
  refine u_lv (lv' := [(0, .ref (adr G (0, 0, 0)))]) [0] rfl ?_
  refine u_aload_n (pc := 0) F dX0_clear_0 0 rfl rfl ?_
  refine u_iconst (v := 0) (pc := 1) F dX0_clear_1 (by decide) ?_
  refine u_put1 (pc := 2) F dX0_clear_2 (hL 0 0 0 (by decide) rfl) ck_0 fl_0_18 rfl (by decide) rfl (ty0 := .int) (by decide +kernel) rfl rfl ?_
  obtain ⟨g1, hg1, h⟩ := d_lt_some h
  refine u_mem (σ2 := (upM σ 0 0 g1)) (by rw [hg1]) ?_
  have h1 := Option.some.inj h
  subst h1
  exact hR _ _ dX0_clear_5
