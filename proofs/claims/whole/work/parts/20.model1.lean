/- RollingCodesModel.in -/
def fX11_in (x0 : Int64) (x2 : Int64) (x4 : Int64) : Option (Int32) :=
    if (lg_cmp x0 x2) < 0 then (some (0 : Int32)) else (if (lg_cmp x0 x4) ≤ 0 then (some (1 : Int32)) else (some (0 : Int32)))
set_option maxHeartbeats 4000000 in
set_option maxRecDepth 100000 in
theorem c_X11_in (G : G0) (hL : Im G) (x0 : Int64) (x2 : Int64) (x4 : Int64) (σ : Mem) (r : Int32) (h : fX11_in x0 x2 x4 = some r) :
    CI G yX11_in cX11_in 6 .boolean 1 [.long x0, .long x2, .long x4] σ r σ := by
  refine CI.of (by decide +kernel) (Nat.le_of_ble_eq_true rfl) (fun Y hY F hR => ?_)
  unfold fX11_in at h
  have F : Fx Y G cX11_in RX11 1 := F
  refine u_lv (lv' := [(0, .long x0), (2, .long x2), (4, .long x4)]) [0, 1, 2] rfl ?_
  refine u_lload_n (pc := 0) F dX11_in_0 0 rfl rfl ?_
  refine u_lload_n (pc := 1) F dX11_in_1 1 rfl rfl ?_
  refine u_lcmp (pc := 2) F dX11_in_2 ?_
  refine u_if_lt (pc := 3) F 17 dX11_in_3 (by decide) (fun c1 => ?_) (fun c1 => ?_)
  · rw [if_pos c1] at h
    refine u_iconst (v := 0) (pc := 17) F dX11_in_17 (by decide) ?_
    have h1 := Option.some.inj h
    subst h1
    exact hR _ _ rfl dX11_in_18
  · rw [if_neg c1] at h
    refine u_lload_n (pc := 6) F dX11_in_6 0 rfl rfl ?_
    refine u_lload (pc := 7) F dX11_in_7 2 rfl ?_
    refine u_lcmp (pc := 9) F dX11_in_9 ?_
    refine u_if_gt (pc := 10) F 17 dX11_in_10 (by decide) (fun c2 => ?_) (fun c2 => ?_)
    · rw [if_neg c2] at h
      refine u_iconst (v := 0) (pc := 17) F dX11_in_17 (by decide) ?_
      have h1 := Option.some.inj h
      subst h1
      exact hR _ _ rfl dX11_in_18
    · rw [if_pos c2] at h
      refine u_iconst (v := 1) (pc := 13) F dX11_in_13 (by decide) ?_
      refine u_goto (pc := 14) F 18 dX11_in_14 (by decide) ?_
      have h1 := Option.some.inj h
      subst h1
      exact hR _ _ rfl dX11_in_18
/- RollingCodesModel.has -/
def fX11_has (x0 : Int32) (x1 : Int32) : Option (Int32) :=
    if ((x0 >>> (x1 &&& 31)) &&& (1 : Int32)) = (1 : Int32) then (some (1 : Int32)) else (some (0 : Int32))
set_option maxHeartbeats 4000000 in
set_option maxRecDepth 100000 in
theorem c_X11_has (G : G0) (hL : Im G) (x0 : Int32) (x1 : Int32) (σ : Mem) (r : Int32) (h : fX11_has x0 x1 = some r) :
    CI G yX11_has cX11_has 2 .boolean 1 [.int x0, .int x1] σ r σ := by
  refine CI.of (by decide +kernel) (Nat.le_of_ble_eq_true rfl) (fun Y hY F hR => ?_)
  unfold fX11_has at h
  have F : Fx Y G cX11_has RX11 1 := F
  refine u_lv (lv' := [(0, .int x0), (1, .int x1)]) [0, 1] rfl ?_
  refine u_iload_n (pc := 0) F dX11_has_0 0 rfl rfl ?_
  refine u_iload_n (pc := 1) F dX11_has_1 1 rfl rfl ?_
  refine u_ishr (pc := 2) F dX11_has_2 ?_
  refine u_iconst (v := 1) (pc := 3) F dX11_has_3 (by decide) ?_
  refine u_iand (pc := 4) F dX11_has_4 ?_
  refine u_iconst (v := 1) (pc := 5) F dX11_has_5 (by decide) ?_
  refine u_icmp_ne (pc := 6) F 13 dX11_has_6 (by decide) (fun c1 => ?_) (fun c1 => ?_)
  · rw [if_neg c1] at h
    refine u_iconst (v := 0) (pc := 13) F dX11_has_13 (by decide) ?_
    have h1 := Option.some.inj h
    subst h1
    exact hR _ _ rfl dX11_has_14
  · rw [if_pos c1] at h
    refine u_iconst (v := 1) (pc := 9) F dX11_has_9 (by decide) ?_
    refine u_goto (pc := 10) F 14 dX11_has_10 (by decide) ?_
    have h1 := Option.some.inj h
    subst h1
    exact hR _ _ rfl dX11_has_14
/- RollingCodesModel.bits -/
def fX11_bits_4  : Nat → Int32 → Int32 → Int32 → Option (Int32)
  | 0, _, _, _ => none
  | fu + 1, x0, x1, x2 =>
    if x2 < (8 : Int32) then (d_lt (x1 + ((x0 >>> (x2 &&& 31)) &&& (1 : Int32))) fun v2 => d_lt (x2 + (1 : Int32)) fun v3 => fX11_bits_4 fu x0 v2 v3) else (some x1)
def fX11_bits (x0 : Int32) : Option (Int32) :=
    fX11_bits_4 1000 x0 (0 : Int32) (0 : Int32)
set_option maxHeartbeats 4000000 in
set_option maxRecDepth 100000 in
theorem wX11_bits_4 (Y : Dy) (G : G0) (hL : Im G) (σ : Mem) (F : Fx Y G cX11_bits RX11 1) (hY : Y.2.2.2.2.2.2.2.2.2.2.2.1 = 3) (r : Int32) (hR : ∀ (pc : Nat) (lv : List (Nat × Value)), narrow .int (.int r) = .int r → decode cX11_bits pc = .ok (.ireturn, 1) → U Y G σ pc lv [.int r]) :
    ∀ (fu : Nat) (x0 : Int32) (x1 : Int32) (x2 : Int32), fX11_bits_4 fu x0 x1 x2 = some r → U Y G σ 4 [(0, .int x0), (1, .int x1), (2, .int x2)] [] := by
  intro fu
  induction fu with
  | zero =>
    intro x0 x1 x2 h
    rw [fX11_bits_4] at h
    cases h
  | succ fu ih =>
    intro x0 x1 x2 h
    rw [fX11_bits_4] at h
    refine u_iload_n (pc := 4) F dX11_bits_4 2 rfl rfl ?_
    refine u_bipush (v := 8) (pc := 5) F dX11_bits_5 (by decide) ?_
    refine u_icmp_ge (pc := 7) F 24 dX11_bits_7 (by decide) (fun c1 => ?_) (fun c1 => ?_)
    · rw [if_neg c1] at h
      refine u_iload_n (pc := 24) F dX11_bits_24 1 rfl rfl ?_
      have h1 := Option.some.inj h
      subst h1
      exact hR _ _ rfl dX11_bits_25
    · rw [if_pos c1] at h
      refine u_iload_n (pc := 10) F dX11_bits_10 1 rfl rfl ?_
      refine u_iload_n (pc := 11) F dX11_bits_11 0 rfl rfl ?_
      refine u_iload_n (pc := 12) F dX11_bits_12 2 rfl rfl ?_
      refine u_ishr (pc := 13) F dX11_bits_13 ?_
      refine u_iconst (v := 1) (pc := 14) F dX11_bits_14 (by decide) ?_
      refine u_iand (pc := 15) F dX11_bits_15 ?_
      refine u_iadd (pc := 16) F dX11_bits_16 ?_
      obtain ⟨v2, hv2, h⟩ := d_lt_some h
      refine u_topi hv2 ?_
      refine u_istore_n (lv' := [(1, .int v2), (0, .int x0), (2, .int x2)]) (pc := 17) F dX11_bits_17 rfl hY (by decide) rfl ?_
      obtain ⟨v3, hv3, h⟩ := d_lt_some h
      refine u_iinc (lv' := [(2, .int v3), (1, .int v2), (0, .int x0)]) (pc := 18) F dX11_bits_18 2 rfl hv3.symm hY (by decide) rfl ?_
      refine u_goto (pc := 21) F 4 dX11_bits_21 (by decide) ?_
      refine u_lv (lv' := [(0, .int x0), (1, .int v2), (2, .int v3)]) [2, 1, 0] rfl ?_
      exact ih x0 v2 v3 h
set_option maxHeartbeats 4000000 in
set_option maxRecDepth 100000 in
theorem c_X11_bits (G : G0) (hL : Im G) (x0 : Int32) (σ : Mem) (r : Int32) (h : fX11_bits x0 = some r) :
    CI G yX11_bits cX11_bits 3 .int 1 [.int x0] σ r σ := by
  refine CI.of (by decide +kernel) (Nat.le_of_ble_eq_true rfl) (fun Y hY F hR => ?_)
  unfold fX11_bits at h
  have F : Fx Y G cX11_bits RX11 1 := F
  refine u_lv (lv' := [(0, .int x0)]) [0] rfl ?_
  refine u_iconst (v := 0) (pc := 0) F dX11_bits_0 (by decide) ?_
  refine u_istore_n (lv' := [(1, .int (0 : Int32)), (0, .int x0)]) (pc := 1) F dX11_bits_1 rfl hY (by decide) rfl ?_
  refine u_iconst (v := 0) (pc := 2) F dX11_bits_2 (by decide) ?_
  refine u_istore_n (lv' := [(2, .int (0 : Int32)), (1, .int (0 : Int32)), (0, .int x0)]) (pc := 3) F dX11_bits_3 rfl hY (by decide) rfl ?_
  refine u_lv (lv' := [(0, .int x0), (1, .int (0 : Int32)), (2, .int (0 : Int32))]) [2, 1, 0] rfl ?_
  exact wX11_bits_4 Y G hL σ F hY r hR 1000 x0 (0 : Int32) (0 : Int32) h
/- RollingCodesModel.isFob -/
def fX11_isFob (mo : Grp) (x1 : Int32) : Option (Int32) :=
    d_bd (fX11_in (x1.toInt64) (0 : Int64) (((mo 0 7) - (1 : Int32)).toInt64)) fun q1 => d_zb q1 <| some q1
set_option maxHeartbeats 4000000 in
set_option maxRecDepth 100000 in
theorem c_X11_isFob (G : G0) (hL : Im G) (x1 : Int32) (σ : Mem) (mo : Grp) (e_mo : σ 11 0 = mo) (r : Int32) (h : fX11_isFob mo x1 = some r) :
    CI G yX11_isFob cX11_isFob 2 .boolean 2 [.ref (adr G (11, 0, 0)), .int x1] σ r σ := by
  refine CI.of (by decide +kernel) (Nat.le_of_ble_eq_true rfl) (fun Y hY F hR => ?_)
  unfold fX11_isFob at h
  have F : Fx Y G cX11_isFob RX11 2 := F
  refine u_lv (lv' := [(0, .ref (adr G (11, 0, 0))), (1, .int x1)]) [0, 1] rfl ?_
  refine u_iload_n (pc := 0) F dX11_isFob_0 1 rfl rfl ?_
  refine u_i2l (pc := 1) F dX11_isFob_1 ?_
  refine u_lconst (v := 0) (pc := 2) F dX11_isFob_2 (by decide) ?_
  refine u_aload_n (pc := 3) F dX11_isFob_3 0 rfl rfl ?_
  refine u_get (v := mo 0 7) (pc := 4) F dX11_isFob_4 (hL 11 0 0 (by decide) rfl) ck_11 fl_11_102 rfl (by decide) (congrFun (congrFun (show σ 11 0 = mo from e_mo) 0) 7) ?_
  refine u_iconst (v := 1) (pc := 7) F dX11_isFob_7 (by decide) ?_
  refine u_isub (pc := 8) F dX11_isFob_8 ?_
  refine u_i2l (pc := 9) F dX11_isFob_9 ?_
  obtain ⟨q1, hq1, h⟩ := d_bd_some h
  refine u_callSi (pc := 10) F (As := [.long (x1.toInt64), .long (0 : Int64), .long (((mo 0 7) - (1 : Int32)).toInt64)]) (c_X11_in G hL (x1.toInt64) (0 : Int64) (((mo 0 7) - (1 : Int32)).toInt64) σ q1 hq1) ys_X11_in ml_11_105 (by decide) rfl rfl (Nat.le_of_ble_eq_true rfl) dX11_isFob_10 ?_
  obtain ⟨c2, h⟩ := d_zb_some h
  have h1 := Option.some.inj h
  subst h1
  exact hR _ _ (nar_zb c2) dX11_isFob_13
/- RollingCodesModel.isGate -/
def fX11_isGate (mo : Grp) (x1 : Int32) : Option (Int32) :=
    d_bd (fX11_in (x1.toInt64) (0 : Int64) (((mo 0 3) - (1 : Int32)).toInt64)) fun q1 => d_zb q1 <| some q1
set_option maxHeartbeats 4000000 in
set_option maxRecDepth 100000 in
theorem c_X11_isGate (G : G0) (hL : Im G) (x1 : Int32) (σ : Mem) (mo : Grp) (e_mo : σ 11 0 = mo) (r : Int32) (h : fX11_isGate mo x1 = some r) :
    CI G yX11_isGate cX11_isGate 2 .boolean 2 [.ref (adr G (11, 0, 0)), .int x1] σ r σ := by
  refine CI.of (by decide +kernel) (Nat.le_of_ble_eq_true rfl) (fun Y hY F hR => ?_)
  unfold fX11_isGate at h
  have F : Fx Y G cX11_isGate RX11 2 := F
  refine u_lv (lv' := [(0, .ref (adr G (11, 0, 0))), (1, .int x1)]) [0, 1] rfl ?_
  refine u_iload_n (pc := 0) F dX11_isGate_0 1 rfl rfl ?_
  refine u_i2l (pc := 1) F dX11_isGate_1 ?_
  refine u_lconst (v := 0) (pc := 2) F dX11_isGate_2 (by decide) ?_
  refine u_aload_n (pc := 3) F dX11_isGate_3 0 rfl rfl ?_
  refine u_get (v := mo 0 3) (pc := 4) F dX11_isGate_4 (hL 11 0 0 (by decide) rfl) ck_11 fl_11_99 rfl (by decide) (congrFun (congrFun (show σ 11 0 = mo from e_mo) 0) 3) ?_
  refine u_iconst (v := 1) (pc := 7) F dX11_isGate_7 (by decide) ?_
  refine u_isub (pc := 8) F dX11_isGate_8 ?_
  refine u_i2l (pc := 9) F dX11_isGate_9 ?_
  obtain ⟨q1, hq1, h⟩ := d_bd_some h
  refine u_callSi (pc := 10) F (As := [.long (x1.toInt64), .long (0 : Int64), .long (((mo 0 3) - (1 : Int32)).toInt64)]) (c_X11_in G hL (x1.toInt64) (0 : Int64) (((mo 0 3) - (1 : Int32)).toInt64) σ q1 hq1) ys_X11_in ml_11_105 (by decide) rfl rfl (Nat.le_of_ble_eq_true rfl) dX11_isGate_10 ?_
  obtain ⟨c2, h⟩ := d_zb_some h
  have h1 := Option.some.inj h
  subst h1
  exact hR _ _ (nar_zb c2) dX11_isGate_13
/- RollingCodesModel.feed -/
def fX11_feed (mo : Grp) (x1 : Int32) : Option (Int32 × Grp) :=
    d_bd (fX11_in (x1.toInt64) (0 : Int64) (255 : Int64)) fun q1 => if q1 = 0 then (some ((-1000000002 : Int32), mo)) else (if (mo 0 16) = (240 : Int32) then (some ((-1000000004 : Int32), mo)) else (d_ab (mo 0 16) 240 <| d_lt (wr mo 16 (mo 0 16).toNatClampNeg x1) fun g5 => d_lt (wr g5 0 16 ((g5 0 16) + (1 : Int32))) fun g6 => some (g6 0 16, g6)))
set_option maxHeartbeats 4000000 in
set_option maxRecDepth 100000 in
theorem c_X11_feed (G : G0) (hL : Im G) (x1 : Int32) (σ : Mem) (mo : Grp) (e_mo : σ 11 0 = mo) (r : Int32) (mo' : Grp) (h : fX11_feed mo x1 = some (r, mo')) :
    CI G yX11_feed cX11_feed 2 .int 2 [.ref (adr G (11, 0, 0)), .int x1] σ r (upM σ 11 0 (mo')) := by
  refine CI.of (by decide +kernel) (Nat.le_of_ble_eq_true rfl) (fun Y hY F hR => ?_)
  unfold fX11_feed at h
  have F : Fx Y G cX11_feed RX11 2 := F
  refine u_mem (σ2 := (upM σ 11 0 mo)) (by rw [← e_mo]; simp only [upM_self]) ?_
  refine u_lv (lv' := [(0, .ref (adr G (11, 0, 0))), (1, .int x1)]) [0, 1] rfl ?_
  refine u_iload_n (pc := 0) F dX11_feed_0 1 rfl rfl ?_
  refine u_i2l (pc := 1) F dX11_feed_1 ?_
  refine u_lconst (v := 0) (pc := 2) F dX11_feed_2 (by decide) ?_
  refine u_ldc2 (v := 255) (pc := 3) F dX11_feed_3 kc_11_109 ?_
  obtain ⟨q1, hq1, h⟩ := d_bd_some h
  refine u_callSi (pc := 6) F (As := [.long (x1.toInt64), .long (0 : Int64), .long (255 : Int64)]) (c_X11_in G hL (x1.toInt64) (0 : Int64) (255 : Int64) (upM σ 11 0 mo) q1 hq1) ys_X11_in ml_11_105 (by decide) rfl rfl (Nat.le_of_ble_eq_true rfl) dX11_feed_6 ?_
  refine u_if_ne (pc := 9) F 15 dX11_feed_9 (by decide) (fun c2 => ?_) (fun c2 => ?_)
  · rw [if_neg c2] at h
    refine u_aload_n (pc := 15) F dX11_feed_15 0 rfl rfl ?_
    refine u_get1 (pc := 16) F dX11_feed_16 (hL 11 0 0 (by decide) rfl) ck_11 fl_11_112 rfl (by decide) ?_
    refine u_sipush (v := 240) (pc := 19) F dX11_feed_19 (by decide) ?_
    refine u_icmp_ne (pc := 22) F 28 dX11_feed_22 (by decide) (fun c3 => ?_) (fun c3 => ?_)
    · rw [if_neg c3] at h
      refine u_aload_n (pc := 28) F dX11_feed_28 0 rfl rfl ?_
      refine u_getA (pc := 29) F dX11_feed_29 (hL 11 0 0 (by decide) rfl) ck_11 fl_11_37 rfl (by decide) (by decide) ?_
      refine u_aload_n (pc := 32) F dX11_feed_32 0 rfl rfl ?_
      refine u_get1 (pc := 33) F dX11_feed_33 (hL 11 0 0 (by decide) rfl) ck_11 fl_11_112 rfl (by decide) ?_
      refine u_iload_n (pc := 36) F dX11_feed_36 1 rfl rfl ?_
      obtain ⟨b4, h⟩ := d_ab_some h
      refine u_astI1 (pc := 37) F dX11_feed_37 (hL 11 0 16 (by decide) rfl) rfl b4 ?_
      obtain ⟨g5, hg5, h⟩ := d_lt_some h
      refine u_mem (σ2 := (upM σ 11 0 g5)) (by rw [hg5]) ?_
      refine u_aload_n (pc := 38) F dX11_feed_38 0 rfl rfl ?_
      refine u_dup (pc := 39) F dX11_feed_39 rfl ?_
      refine u_get1 (pc := 40) F dX11_feed_40 (hL 11 0 0 (by decide) rfl) ck_11 fl_11_112 rfl (by decide) ?_
      refine u_iconst (v := 1) (pc := 43) F dX11_feed_43 (by decide) ?_
      refine u_iadd (pc := 44) F dX11_feed_44 ?_
      refine u_put1 (pc := 45) F dX11_feed_45 (hL 11 0 0 (by decide) rfl) ck_11 fl_11_112 rfl (by decide) rfl (ty0 := .int) (by decide +kernel) rfl rfl ?_
      obtain ⟨g6, hg6, h⟩ := d_lt_some h
      refine u_mem (σ2 := (upM σ 11 0 g6)) (by rw [hg6]) ?_
      refine u_aload_n (pc := 48) F dX11_feed_48 0 rfl rfl ?_
      refine u_get1 (pc := 49) F dX11_feed_49 (hL 11 0 0 (by decide) rfl) ck_11 fl_11_112 rfl (by decide) ?_
      have h1 := Option.some.inj h
      obtain ⟨hj0, hr0⟩ := Prod.mk.inj h1
      subst hj0
      subst hr0
      exact hR _ _ rfl dX11_feed_52
    · rw [if_pos c3] at h
      refine u_ldc (v := -1000000004) (pc := 25) F dX11_feed_25 kc_11_115 ?_
      have h1 := Option.some.inj h
      obtain ⟨hj0, hr0⟩ := Prod.mk.inj h1
      subst hj0
      subst hr0
      exact hR _ _ rfl dX11_feed_27
  · rw [if_pos c2] at h
    refine u_ldc (v := -1000000002) (pc := 12) F dX11_feed_12 kc_11_111 ?_
    have h1 := Option.some.inj h
    obtain ⟨hj0, hr0⟩ := Prod.mk.inj h1
    subst hj0
    subst hr0
    exact hR _ _ rfl dX11_feed_14
/- RollingCodesModel.here -/
def fX11_here_38  (mo : Grp)  : Option (Int32 × Grp) :=
    if (mo 0 18) < (mo 0 16) then (d_ab (mo 0 18) 240 <| some (mo 16 (mo 0 18).toNatClampNeg, mo)) else (some ((-1 : Int32), mo))
def fX11_here_0  : Nat → Grp → Option (Int32 × Grp)
  | 0, _ => none
  | fu + 1, mo =>
    if (mo 0 18) < (mo 0 16) then (d_ab (mo 0 18) 240 <| if (mo 16 (mo 0 18).toNatClampNeg) = (32 : Int32) then (d_lt (wr mo 0 18 ((mo 0 18) + (1 : Int32))) fun g6 => fX11_here_0 fu g6) else (fX11_here_38 mo)) else (fX11_here_38 mo)
def fX11_here (mo : Grp) : Option (Int32 × Grp) :=
    fX11_here_0 1000 mo
set_option maxHeartbeats 4000000 in
set_option maxRecDepth 100000 in
theorem wX11_here_38 (Y : Dy) (G : G0) (hL : Im G) (σ : Mem) (F : Fx Y G cX11_here RX11 1) (hY : Y.2.2.2.2.2.2.2.2.2.2.2.1 = 1) (r : Int32) (mo' : Grp) (hR : ∀ (pc : Nat) (lv : List (Nat × Value)), narrow .int (.int r) = .int r → decode cX11_here pc = .ok (.ireturn, 1) → U Y G (upM σ 11 0 (mo')) pc lv [.int r]) :
    ∀ (mo : Grp), fX11_here_38 mo = some (r, mo') → U Y G (upM σ 11 0 mo) 38 [(0, .ref (adr G (11, 0, 0)))] [] := by
  intro mo h
  unfold fX11_here_38 at h
  refine u_aload_n (pc := 38) F dX11_here_38 0 rfl rfl ?_
  refine u_get1 (pc := 39) F dX11_here_39 (hL 11 0 0 (by decide) rfl) ck_11 fl_11_116 rfl (by decide) ?_
  refine u_aload_n (pc := 42) F dX11_here_42 0 rfl rfl ?_
  refine u_get1 (pc := 43) F dX11_here_43 (hL 11 0 0 (by decide) rfl) ck_11 fl_11_112 rfl (by decide) ?_
  refine u_icmp_ge (pc := 46) F 61 dX11_here_46 (by decide) (fun c2 => ?_) (fun c2 => ?_)
  · rw [if_neg c2] at h
    refine u_iconst (v := -1) (pc := 61) F dX11_here_61 (by decide) ?_
    have h1 := Option.some.inj h
    obtain ⟨hj0, hr0⟩ := Prod.mk.inj h1
    subst hj0
    subst hr0
    exact hR _ _ rfl dX11_here_62
  · rw [if_pos c2] at h
    refine u_aload_n (pc := 49) F dX11_here_49 0 rfl rfl ?_
    refine u_getA (pc := 50) F dX11_here_50 (hL 11 0 0 (by decide) rfl) ck_11 fl_11_37 rfl (by decide) (by decide) ?_
    refine u_aload_n (pc := 53) F dX11_here_53 0 rfl rfl ?_
    refine u_get1 (pc := 54) F dX11_here_54 (hL 11 0 0 (by decide) rfl) ck_11 fl_11_116 rfl (by decide) ?_
    obtain ⟨b3, h⟩ := d_ab_some h
    refine u_aldI1 (pc := 57) F dX11_here_57 (hL 11 0 16 (by decide) rfl) rfl b3 ?_
    refine u_goto (pc := 58) F 62 dX11_here_58 (by decide) ?_
    have h1 := Option.some.inj h
    obtain ⟨hj0, hr0⟩ := Prod.mk.inj h1
    subst hj0
    subst hr0
    exact hR _ _ rfl dX11_here_62
set_option maxHeartbeats 4000000 in
set_option maxRecDepth 100000 in
theorem wX11_here_0 (Y : Dy) (G : G0) (hL : Im G) (σ : Mem) (F : Fx Y G cX11_here RX11 1) (hY : Y.2.2.2.2.2.2.2.2.2.2.2.1 = 1) (r : Int32) (mo' : Grp) (hR : ∀ (pc : Nat) (lv : List (Nat × Value)), narrow .int (.int r) = .int r → decode cX11_here pc = .ok (.ireturn, 1) → U Y G (upM σ 11 0 (mo')) pc lv [.int r]) :
    ∀ (fu : Nat) (mo : Grp), fX11_here_0 fu mo = some (r, mo') → U Y G (upM σ 11 0 mo) 0 [(0, .ref (adr G (11, 0, 0)))] [] := by
  intro fu
  induction fu with
  | zero =>
    intro mo h
    rw [fX11_here_0] at h
    cases h
  | succ fu ih =>
    intro mo h
    rw [fX11_here_0] at h
    refine u_aload_n (pc := 0) F dX11_here_0 0 rfl rfl ?_
    refine u_get1 (pc := 1) F dX11_here_1 (hL 11 0 0 (by decide) rfl) ck_11 fl_11_116 rfl (by decide) ?_
    refine u_aload_n (pc := 4) F dX11_here_4 0 rfl rfl ?_
    refine u_get1 (pc := 5) F dX11_here_5 (hL 11 0 0 (by decide) rfl) ck_11 fl_11_112 rfl (by decide) ?_
    refine u_icmp_ge (pc := 8) F 38 dX11_here_8 (by decide) (fun c1 => ?_) (fun c1 => ?_)
    · rw [if_neg c1] at h
      exact wX11_here_38 Y G hL σ F hY r mo' hR mo h
    · rw [if_pos c1] at h
      refine u_aload_n (pc := 11) F dX11_here_11 0 rfl rfl ?_
      refine u_getA (pc := 12) F dX11_here_12 (hL 11 0 0 (by decide) rfl) ck_11 fl_11_37 rfl (by decide) (by decide) ?_
      refine u_aload_n (pc := 15) F dX11_here_15 0 rfl rfl ?_
      refine u_get1 (pc := 16) F dX11_here_16 (hL 11 0 0 (by decide) rfl) ck_11 fl_11_116 rfl (by decide) ?_
      obtain ⟨b4, h⟩ := d_ab_some h
      refine u_aldI1 (pc := 19) F dX11_here_19 (hL 11 0 16 (by decide) rfl) rfl b4 ?_
      refine u_bipush (v := 32) (pc := 20) F dX11_here_20 (by decide) ?_
      refine u_icmp_ne (pc := 22) F 38 dX11_here_22 (by decide) (fun c5 => ?_) (fun c5 => ?_)
      · rw [if_neg c5] at h
        exact wX11_here_38 Y G hL σ F hY r mo' hR mo h
      · rw [if_pos c5] at h
        refine u_aload_n (pc := 25) F dX11_here_25 0 rfl rfl ?_
        refine u_dup (pc := 26) F dX11_here_26 rfl ?_
        refine u_get1 (pc := 27) F dX11_here_27 (hL 11 0 0 (by decide) rfl) ck_11 fl_11_116 rfl (by decide) ?_
        refine u_iconst (v := 1) (pc := 30) F dX11_here_30 (by decide) ?_
        refine u_iadd (pc := 31) F dX11_here_31 ?_
        refine u_put1 (pc := 32) F dX11_here_32 (hL 11 0 0 (by decide) rfl) ck_11 fl_11_116 rfl (by decide) rfl (ty0 := .int) (by decide +kernel) rfl rfl ?_
        obtain ⟨g6, hg6, h⟩ := d_lt_some h
        refine u_mem (σ2 := (upM σ 11 0 g6)) (by rw [hg6]) ?_
        refine u_goto (pc := 35) F 0 dX11_here_35 (by decide) ?_
        exact ih g6 h
set_option maxHeartbeats 4000000 in
set_option maxRecDepth 100000 in
theorem c_X11_here (G : G0) (hL : Im G) (σ : Mem) (mo : Grp) (e_mo : σ 11 0 = mo) (r : Int32) (mo' : Grp) (h : fX11_here mo = some (r, mo')) :
    CI G yX11_here cX11_here 1 .int 1 [.ref (adr G (11, 0, 0))] σ r (upM σ 11 0 (mo')) := by
  refine CI.of (by decide +kernel) (Nat.le_of_ble_eq_true rfl) (fun Y hY F hR => ?_)
  unfold fX11_here at h
  have F : Fx Y G cX11_here RX11 1 := F
  refine u_mem (σ2 := (upM σ 11 0 mo)) (by rw [← e_mo]; simp only [upM_self]) ?_
  refine u_lv (lv' := [(0, .ref (adr G (11, 0, 0)))]) [0] rfl ?_
  exact wX11_here_0 Y G hL σ F hY r mo' hR 1000 mo h
/- RollingCodesModel.fails -/
def fX11_fails (mo : Grp) (x1 : Int32) (x2 : Int32) : Option (Int32 × Grp) :=
    d_lt (wr mo 0 17 x2) fun g1 => some (x1, g1)
set_option maxHeartbeats 4000000 in
set_option maxRecDepth 100000 in
theorem c_X11_fails (G : G0) (hL : Im G) (x1 : Int32) (x2 : Int32) (σ : Mem) (mo : Grp) (e_mo : σ 11 0 = mo) (r : Int32) (mo' : Grp) (h : fX11_fails mo x1 x2 = some (r, mo')) :
    CI G yX11_fails cX11_fails 3 .int 1 [.ref (adr G (11, 0, 0)), .int x1, .int x2] σ r (upM σ 11 0 (mo')) := by
  refine CI.of (by decide +kernel) (Nat.le_of_ble_eq_true rfl) (fun Y hY F hR => ?_)
  unfold fX11_fails at h
  have F : Fx Y G cX11_fails RX11 1 := F
  refine u_mem (σ2 := (upM σ 11 0 mo)) (by rw [← e_mo]; simp only [upM_self]) ?_
  refine u_lv (lv' := [(0, .ref (adr G (11, 0, 0))), (1, .int x1), (2, .int x2)]) [0, 1, 2] rfl ?_
  refine u_aload_n (pc := 0) F dX11_fails_0 0 rfl rfl ?_
  refine u_iload_n (pc := 1) F dX11_fails_1 2 rfl rfl ?_
  refine u_put1 (pc := 2) F dX11_fails_2 (hL 11 0 0 (by decide) rfl) ck_11 fl_11_40 rfl (by decide) rfl (ty0 := .int) (by decide +kernel) rfl rfl ?_
  obtain ⟨g1, hg1, h⟩ := d_lt_some h
  refine u_mem (σ2 := (upM σ 11 0 g1)) (by rw [hg1]) ?_
  refine u_iload_n (pc := 5) F dX11_fails_5 1 rfl rfl ?_
  have h1 := Option.some.inj h
  obtain ⟨hj0, hr0⟩ := Prod.mk.inj h1
  subst hj0
  subst hr0
  exact hR _ _ rfl dX11_fails_6
/- RollingCodesModel.takeNumber -/
def fX11_takeNumber_153  (mo : Grp) (x4 : Int32) : Option (Int32 × Grp) :=
    d_bd (fX11_fails mo (2 : Int32) x4) fun q8 => some (q8.1, q8.2)
def fX11_takeNumber_127  (mo : Grp) (x1 : Int32) (x2 : Int32) (x4 : Int32) : Option (Int32 × Grp) :=
    if ((mo 0 18) - x4) ≤ (3 : Int32) then (d_bd (fX11_in ((mo 0 19).toInt64) (x1.toInt64) (x2.toInt64)) fun q9 => if q9 = 0 then (fX11_takeNumber_153 mo x4) else (some ((0 : Int32), mo))) else (fX11_takeNumber_153 mo x4)
def fX11_takeNumber_40  : Nat → Grp → Int32 → Int32 → Int32 → Option (Int32 × Grp)
  | 0, _, _, _, _ => none
  | fu + 1, mo, x1, x2, x4 =>
    if (mo 0 18) < (mo 0 16) then (d_ab (mo 0 18) 240 <| d_bd (fX11_in ((mo 16 (mo 0 18).toNatClampNeg).toInt64) (48 : Int64) (57 : Int64)) fun q12 => if q12 = 0 then (fX11_takeNumber_127 mo x1 x2 x4) else (if (mo 0 19) ≤ (10000 : Int32) then (d_ab (mo 0 18) 240 <| d_lt (wr mo 0 19 ((((10 : Int32) * (mo 0 19)) + (mo 16 (mo 0 18).toNatClampNeg)) - (48 : Int32))) fun g16 => d_lt (wr g16 0 18 ((g16 0 18) + (1 : Int32))) fun g17 => fX11_takeNumber_40 fu g17 x1 x2 x4) else (d_lt (wr mo 0 19 (mo 0 19)) fun g18 => d_lt (wr g18 0 18 ((g18 0 18) + (1 : Int32))) fun g19 => fX11_takeNumber_40 fu g19 x1 x2 x4))) else (fX11_takeNumber_127 mo x1 x2 x4)
def fX11_takeNumber (mo : Grp) (x1 : Int32) (x2 : Int32) : Option (Int32 × Grp) :=
    d_bd (fX11_here mo) fun q1 => d_bd (fX11_in (q1.1.toInt64) (48 : Int64) (57 : Int64)) fun q2 => if q2 = 0 then (d_bd (fX11_fails q1.2 (1 : Int32) (q1.2 0 18)) fun q20 => some (q20.1, q20.2)) else (d_lt (q1.2 0 18) fun v4 => d_lt (wr q1.2 0 19 (0 : Int32)) fun g5 => fX11_takeNumber_40 1000 g5 x1 x2 v4)
set_option maxHeartbeats 4000000 in
set_option maxRecDepth 100000 in
theorem wX11_takeNumber_153 (Y : Dy) (G : G0) (hL : Im G) (σ : Mem) (F : Fx Y G cX11_takeNumber RX11 2) (hY : Y.2.2.2.2.2.2.2.2.2.2.2.1 = 5) (r : Int32) (mo' : Grp) (hR : ∀ (pc : Nat) (lv : List (Nat × Value)), narrow .int (.int r) = .int r → decode cX11_takeNumber pc = .ok (.ireturn, 1) → U Y G (upM σ 11 0 (mo')) pc lv [.int r]) :
    ∀ (mo : Grp) (x4 : Int32), fX11_takeNumber_153 mo x4 = some (r, mo') → U Y G (upM σ 11 0 mo) 153 [(0, .ref (adr G (11, 0, 0))), (4, .int x4)] [] := by
  intro mo x4 h
  unfold fX11_takeNumber_153 at h
  refine u_aload_n (pc := 153) F dX11_takeNumber_153 0 rfl rfl ?_
  refine u_iconst (v := 2) (pc := 154) F dX11_takeNumber_154 (by decide) ?_
  refine u_iload (pc := 155) F dX11_takeNumber_155 1 rfl ?_
  obtain ⟨q8, hq8, h⟩ := d_bd_some h
  refine u_calli (pc := 157) F (As := [.int (2 : Int32), .int x4]) (c_X11_fails G hL (2 : Int32) x4 (upM σ 11 0 mo) mo (upM_same _ _ _ _) q8.1 q8.2 hq8) yv_X11_fails ml_11_127 (hL 11 0 0 (by decide) rfl) rfl (by decide) rfl rfl (Nat.le_of_ble_eq_true rfl) dX11_takeNumber_157 ?_
  refine u_mem (σ2 := (upM σ 11 0 q8.2)) (by first | (rw [upM_upM]; done) | (rw [upM_mid _ _ _ _ (by decide)]; done) | (rw [upM_mid _ _ _ _ (by decide), upM_upM]; done) | (rw [upM_mid _ _ _ _ (by decide), upM_mid _ _ _ _ (by decide)]; done)) ?_
  refine u_goto (pc := 160) F 164 dX11_takeNumber_160 (by decide) ?_
  have h1 := Option.some.inj h
  obtain ⟨hj0, hr0⟩ := Prod.mk.inj h1
  subst hj0
  subst hr0
  exact hR _ _ rfl dX11_takeNumber_164
set_option maxHeartbeats 4000000 in
set_option maxRecDepth 100000 in
theorem wX11_takeNumber_127 (Y : Dy) (G : G0) (hL : Im G) (σ : Mem) (F : Fx Y G cX11_takeNumber RX11 2) (hY : Y.2.2.2.2.2.2.2.2.2.2.2.1 = 5) (r : Int32) (mo' : Grp) (hR : ∀ (pc : Nat) (lv : List (Nat × Value)), narrow .int (.int r) = .int r → decode cX11_takeNumber pc = .ok (.ireturn, 1) → U Y G (upM σ 11 0 (mo')) pc lv [.int r]) :
    ∀ (mo : Grp) (x1 : Int32) (x2 : Int32) (x4 : Int32), fX11_takeNumber_127 mo x1 x2 x4 = some (r, mo') → U Y G (upM σ 11 0 mo) 127 [(0, .ref (adr G (11, 0, 0))), (1, .int x1), (2, .int x2), (4, .int x4)] [] := by
  intro mo x1 x2 x4 h
  unfold fX11_takeNumber_127 at h
  refine u_aload_n (pc := 127) F dX11_takeNumber_127 0 rfl rfl ?_
  refine u_get1 (pc := 128) F dX11_takeNumber_128 (hL 11 0 0 (by decide) rfl) ck_11 fl_11_116 rfl (by decide) ?_
  refine u_iload (pc := 131) F dX11_takeNumber_131 3 rfl ?_
  refine u_isub (pc := 133) F dX11_takeNumber_133 ?_
  refine u_iconst (v := 3) (pc := 134) F dX11_takeNumber_134 (by decide) ?_
  refine u_icmp_gt (pc := 135) F 153 dX11_takeNumber_135 (by decide) (fun c7 => ?_) (fun c7 => ?_)
  · rw [if_neg c7] at h
    refine u_lv (lv' := [(0, .ref (adr G (11, 0, 0))), (4, .int x4)]) [0, 3] rfl ?_
    exact wX11_takeNumber_153 Y G hL σ F hY r mo' hR mo x4 h
  · rw [if_pos c7] at h
    refine u_aload_n (pc := 138) F dX11_takeNumber_138 0 rfl rfl ?_
    refine u_get1 (pc := 139) F dX11_takeNumber_139 (hL 11 0 0 (by decide) rfl) ck_11 fl_11_131 rfl (by decide) ?_
    refine u_i2l (pc := 142) F dX11_takeNumber_142 ?_
    refine u_iload_n (pc := 143) F dX11_takeNumber_143 1 rfl rfl ?_
    refine u_i2l (pc := 144) F dX11_takeNumber_144 ?_
    refine u_iload_n (pc := 145) F dX11_takeNumber_145 2 rfl rfl ?_
    refine u_i2l (pc := 146) F dX11_takeNumber_146 ?_
    obtain ⟨q9, hq9, h⟩ := d_bd_some h
    refine u_callSi (pc := 147) F (As := [.long ((mo 0 19).toInt64), .long (x1.toInt64), .long (x2.toInt64)]) (c_X11_in G hL ((mo 0 19).toInt64) (x1.toInt64) (x2.toInt64) (upM σ 11 0 mo) q9 hq9) ys_X11_in ml_11_105 (by decide) rfl rfl (Nat.le_of_ble_eq_true rfl) dX11_takeNumber_147 ?_
    refine u_if_ne (pc := 150) F 163 dX11_takeNumber_150 (by decide) (fun c10 => ?_) (fun c10 => ?_)
    · rw [if_neg c10] at h
      refine u_iconst (v := 0) (pc := 163) F dX11_takeNumber_163 (by decide) ?_
      have h1 := Option.some.inj h
      obtain ⟨hj0, hr0⟩ := Prod.mk.inj h1
      subst hj0
      subst hr0
      exact hR _ _ rfl dX11_takeNumber_164
    · rw [if_pos c10] at h
      refine u_lv (lv' := [(0, .ref (adr G (11, 0, 0))), (4, .int x4)]) [0, 3] rfl ?_
      exact wX11_takeNumber_153 Y G hL σ F hY r mo' hR mo x4 h
set_option maxHeartbeats 4000000 in
set_option maxRecDepth 100000 in
theorem wX11_takeNumber_40 (Y : Dy) (G : G0) (hL : Im G) (σ : Mem) (F : Fx Y G cX11_takeNumber RX11 2) (hY : Y.2.2.2.2.2.2.2.2.2.2.2.1 = 5) (r : Int32) (mo' : Grp) (hR : ∀ (pc : Nat) (lv : List (Nat × Value)), narrow .int (.int r) = .int r → decode cX11_takeNumber pc = .ok (.ireturn, 1) → U Y G (upM σ 11 0 (mo')) pc lv [.int r]) :
    ∀ (fu : Nat) (mo : Grp) (x1 : Int32) (x2 : Int32) (x4 : Int32), fX11_takeNumber_40 fu mo x1 x2 x4 = some (r, mo') → U Y G (upM σ 11 0 mo) 40 [(0, .ref (adr G (11, 0, 0))), (1, .int x1), (2, .int x2), (4, .int x4)] [] := by
  intro fu
  induction fu with
  | zero =>
    intro mo x1 x2 x4 h
    rw [fX11_takeNumber_40] at h
    cases h
  | succ fu ih =>
    intro mo x1 x2 x4 h
    rw [fX11_takeNumber_40] at h
    refine u_aload_n (pc := 40) F dX11_takeNumber_40 0 rfl rfl ?_
    refine u_get1 (pc := 41) F dX11_takeNumber_41 (hL 11 0 0 (by decide) rfl) ck_11 fl_11_116 rfl (by decide) ?_
    refine u_aload_n (pc := 44) F dX11_takeNumber_44 0 rfl rfl ?_
    refine u_get1 (pc := 45) F dX11_takeNumber_45 (hL 11 0 0 (by decide) rfl) ck_11 fl_11_112 rfl (by decide) ?_
    refine u_icmp_ge (pc := 48) F 127 dX11_takeNumber_48 (by decide) (fun c6 => ?_) (fun c6 => ?_)
    · rw [if_neg c6] at h
      exact wX11_takeNumber_127 Y G hL σ F hY r mo' hR mo x1 x2 x4 h
    · rw [if_pos c6] at h
      refine u_aload_n (pc := 51) F dX11_takeNumber_51 0 rfl rfl ?_
      refine u_getA (pc := 52) F dX11_takeNumber_52 (hL 11 0 0 (by decide) rfl) ck_11 fl_11_37 rfl (by decide) (by decide) ?_
      refine u_aload_n (pc := 55) F dX11_takeNumber_55 0 rfl rfl ?_
      refine u_get1 (pc := 56) F dX11_takeNumber_56 (hL 11 0 0 (by decide) rfl) ck_11 fl_11_116 rfl (by decide) ?_
      obtain ⟨b11, h⟩ := d_ab_some h
      refine u_aldI1 (pc := 59) F dX11_takeNumber_59 (hL 11 0 16 (by decide) rfl) rfl b11 ?_
      refine u_i2l (pc := 60) F dX11_takeNumber_60 ?_
      refine u_ldc2 (v := 48) (pc := 61) F dX11_takeNumber_61 kc_11_123 ?_
      refine u_ldc2 (v := 57) (pc := 64) F dX11_takeNumber_64 kc_11_125 ?_
      obtain ⟨q12, hq12, h⟩ := d_bd_some h
      refine u_callSi (pc := 67) F (As := [.long ((mo 16 (mo 0 18).toNatClampNeg).toInt64), .long (48 : Int64), .long (57 : Int64)]) (c_X11_in G hL ((mo 16 (mo 0 18).toNatClampNeg).toInt64) (48 : Int64) (57 : Int64) (upM σ 11 0 mo) q12 hq12) ys_X11_in ml_11_105 (by decide) rfl rfl (Nat.le_of_ble_eq_true rfl) dX11_takeNumber_67 ?_
      refine u_if_eq (pc := 70) F 127 dX11_takeNumber_70 (by decide) (fun c13 => ?_) (fun c13 => ?_)
      · rw [if_pos c13] at h
        exact wX11_takeNumber_127 Y G hL σ F hY r mo' hR mo x1 x2 x4 h
      · rw [if_neg c13] at h
        refine u_aload_n (pc := 73) F dX11_takeNumber_73 0 rfl rfl ?_
        refine u_aload_n (pc := 74) F dX11_takeNumber_74 0 rfl rfl ?_
        refine u_get1 (pc := 75) F dX11_takeNumber_75 (hL 11 0 0 (by decide) rfl) ck_11 fl_11_131 rfl (by decide) ?_
        refine u_sipush (v := 10000) (pc := 78) F dX11_takeNumber_78 (by decide) ?_
        refine u_icmp_le (pc := 81) F 91 dX11_takeNumber_81 (by decide) (fun c14 => ?_) (fun c14 => ?_)
        · rw [if_pos c14] at h
          refine u_bipush (v := 10) (pc := 91) F dX11_takeNumber_91 (by decide) ?_
          refine u_aload_n (pc := 93) F dX11_takeNumber_93 0 rfl rfl ?_
          refine u_get1 (pc := 94) F dX11_takeNumber_94 (hL 11 0 0 (by decide) rfl) ck_11 fl_11_131 rfl (by decide) ?_
          refine u_imul (pc := 97) F dX11_takeNumber_97 ?_
          refine u_aload_n (pc := 98) F dX11_takeNumber_98 0 rfl rfl ?_
          refine u_getA (pc := 99) F dX11_takeNumber_99 (hL 11 0 0 (by decide) rfl) ck_11 fl_11_37 rfl (by decide) (by decide) ?_
          refine u_aload_n (pc := 102) F dX11_takeNumber_102 0 rfl rfl ?_
          refine u_get1 (pc := 103) F dX11_takeNumber_103 (hL 11 0 0 (by decide) rfl) ck_11 fl_11_116 rfl (by decide) ?_
          obtain ⟨b15, h⟩ := d_ab_some h
          refine u_aldI1 (pc := 106) F dX11_takeNumber_106 (hL 11 0 16 (by decide) rfl) rfl b15 ?_
          refine u_iadd (pc := 107) F dX11_takeNumber_107 ?_
          refine u_bipush (v := 48) (pc := 108) F dX11_takeNumber_108 (by decide) ?_
          refine u_isub (pc := 110) F dX11_takeNumber_110 ?_
          refine u_put1 (pc := 111) F dX11_takeNumber_111 (hL 11 0 0 (by decide) rfl) ck_11 fl_11_131 rfl (by decide) rfl (ty0 := .int) (by decide +kernel) rfl rfl ?_
          obtain ⟨g16, hg16, h⟩ := d_lt_some h
          refine u_mem (σ2 := (upM σ 11 0 g16)) (by rw [hg16]) ?_
          refine u_aload_n (pc := 114) F dX11_takeNumber_114 0 rfl rfl ?_
          refine u_dup (pc := 115) F dX11_takeNumber_115 rfl ?_
          refine u_get1 (pc := 116) F dX11_takeNumber_116 (hL 11 0 0 (by decide) rfl) ck_11 fl_11_116 rfl (by decide) ?_
          refine u_iconst (v := 1) (pc := 119) F dX11_takeNumber_119 (by decide) ?_
          refine u_iadd (pc := 120) F dX11_takeNumber_120 ?_
          refine u_put1 (pc := 121) F dX11_takeNumber_121 (hL 11 0 0 (by decide) rfl) ck_11 fl_11_116 rfl (by decide) rfl (ty0 := .int) (by decide +kernel) rfl rfl ?_
          obtain ⟨g17, hg17, h⟩ := d_lt_some h
          refine u_mem (σ2 := (upM σ 11 0 g17)) (by rw [hg17]) ?_
          refine u_goto (pc := 124) F 40 dX11_takeNumber_124 (by decide) ?_
          exact ih g17 x1 x2 x4 h
        · rw [if_neg c14] at h
          refine u_aload_n (pc := 84) F dX11_takeNumber_84 0 rfl rfl ?_
          refine u_get1 (pc := 85) F dX11_takeNumber_85 (hL 11 0 0 (by decide) rfl) ck_11 fl_11_131 rfl (by decide) ?_
          refine u_goto (pc := 88) F 111 dX11_takeNumber_88 (by decide) ?_
          refine u_put1 (pc := 111) F dX11_takeNumber_111 (hL 11 0 0 (by decide) rfl) ck_11 fl_11_131 rfl (by decide) rfl (ty0 := .int) (by decide +kernel) rfl rfl ?_
          obtain ⟨g18, hg18, h⟩ := d_lt_some h
          refine u_mem (σ2 := (upM σ 11 0 g18)) (by rw [hg18]) ?_
          refine u_aload_n (pc := 114) F dX11_takeNumber_114 0 rfl rfl ?_
          refine u_dup (pc := 115) F dX11_takeNumber_115 rfl ?_
          refine u_get1 (pc := 116) F dX11_takeNumber_116 (hL 11 0 0 (by decide) rfl) ck_11 fl_11_116 rfl (by decide) ?_
          refine u_iconst (v := 1) (pc := 119) F dX11_takeNumber_119 (by decide) ?_
          refine u_iadd (pc := 120) F dX11_takeNumber_120 ?_
          refine u_put1 (pc := 121) F dX11_takeNumber_121 (hL 11 0 0 (by decide) rfl) ck_11 fl_11_116 rfl (by decide) rfl (ty0 := .int) (by decide +kernel) rfl rfl ?_
          obtain ⟨g19, hg19, h⟩ := d_lt_some h
          refine u_mem (σ2 := (upM σ 11 0 g19)) (by rw [hg19]) ?_
          refine u_goto (pc := 124) F 40 dX11_takeNumber_124 (by decide) ?_
          exact ih g19 x1 x2 x4 h
set_option maxHeartbeats 4000000 in
set_option maxRecDepth 100000 in
theorem c_X11_takeNumber (G : G0) (hL : Im G) (x1 : Int32) (x2 : Int32) (σ : Mem) (mo : Grp) (e_mo : σ 11 0 = mo) (r : Int32) (mo' : Grp) (h : fX11_takeNumber mo x1 x2 = some (r, mo')) :
    CI G yX11_takeNumber cX11_takeNumber 5 .int 2 [.ref (adr G (11, 0, 0)), .int x1, .int x2] σ r (upM σ 11 0 (mo')) := by
  refine CI.of (by decide +kernel) (Nat.le_of_ble_eq_true rfl) (fun Y hY F hR => ?_)
  unfold fX11_takeNumber at h
  have F : Fx Y G cX11_takeNumber RX11 2 := F
  refine u_mem (σ2 := (upM σ 11 0 mo)) (by rw [← e_mo]; simp only [upM_self]) ?_
  refine u_lv (lv' := [(0, .ref (adr G (11, 0, 0))), (1, .int x1), (2, .int x2)]) [0, 1, 2] rfl ?_
  refine u_aload_n (pc := 0) F dX11_takeNumber_0 0 rfl rfl ?_
  obtain ⟨q1, hq1, h⟩ := d_bd_some h
  refine u_calli (pc := 1) F (As := []) (c_X11_here G hL (upM σ 11 0 mo) mo (upM_same _ _ _ _) q1.1 q1.2 hq1) yv_X11_here ml_11_119 (hL 11 0 0 (by decide) rfl) rfl (by decide) rfl rfl (Nat.le_of_ble_eq_true rfl) dX11_takeNumber_1 ?_
  refine u_mem (σ2 := (upM σ 11 0 q1.2)) (by first | (rw [upM_upM]; done) | (rw [upM_mid _ _ _ _ (by decide)]; done) | (rw [upM_mid _ _ _ _ (by decide), upM_upM]; done) | (rw [upM_mid _ _ _ _ (by decide), upM_mid _ _ _ _ (by decide)]; done)) ?_
  refine u_istore_n (lv' := [(3, .int q1.1), (0, .ref (adr G (11, 0, 0))), (1, .int x1), (2, .int x2)]) (pc := 4) F dX11_takeNumber_4 rfl hY (by decide) rfl ?_
  refine u_iload_n (pc := 5) F dX11_takeNumber_5 0 rfl rfl ?_
  refine u_i2l (pc := 6) F dX11_takeNumber_6 ?_
  refine u_ldc2 (v := 48) (pc := 7) F dX11_takeNumber_7 kc_11_123 ?_
  refine u_ldc2 (v := 57) (pc := 10) F dX11_takeNumber_10 kc_11_125 ?_
  obtain ⟨q2, hq2, h⟩ := d_bd_some h
  refine u_callSi (pc := 13) F (As := [.long (q1.1.toInt64), .long (48 : Int64), .long (57 : Int64)]) (c_X11_in G hL (q1.1.toInt64) (48 : Int64) (57 : Int64) (upM σ 11 0 q1.2) q2 hq2) ys_X11_in ml_11_105 (by decide) rfl rfl (Nat.le_of_ble_eq_true rfl) dX11_takeNumber_13 ?_
  refine u_if_ne (pc := 16) F 29 dX11_takeNumber_16 (by decide) (fun c3 => ?_) (fun c3 => ?_)
  · rw [if_neg c3] at h
    refine u_aload_n (pc := 29) F dX11_takeNumber_29 1 rfl rfl ?_
    refine u_get1 (pc := 30) F dX11_takeNumber_30 (hL 11 0 0 (by decide) rfl) ck_11 fl_11_116 rfl (by decide) ?_
    obtain ⟨v4, hv4, h⟩ := d_lt_some h
    refine u_topi hv4 ?_
    refine u_istore (lv' := [(4, .int v4), (3, .int q1.1), (0, .ref (adr G (11, 0, 0))), (1, .int x1), (2, .int x2)]) (pc := 33) F dX11_takeNumber_33 hY (by decide) rfl ?_
    refine u_aload_n (pc := 35) F dX11_takeNumber_35 2 rfl rfl ?_
    refine u_iconst (v := 0) (pc := 36) F dX11_takeNumber_36 (by decide) ?_
    refine u_put1 (pc := 37) F dX11_takeNumber_37 (hL 11 0 0 (by decide) rfl) ck_11 fl_11_131 rfl (by decide) rfl (ty0 := .int) (by decide +kernel) rfl rfl ?_
    obtain ⟨g5, hg5, h⟩ := d_lt_some h
    refine u_mem (σ2 := (upM σ 11 0 g5)) (by rw [hg5]) ?_
    refine u_lv (lv' := [(0, .ref (adr G (11, 0, 0))), (1, .int x1), (2, .int x2), (4, .int v4)]) [2, 3, 4, 0] rfl ?_
    exact wX11_takeNumber_40 Y G hL σ F hY r mo' hR 1000 g5 x1 x2 v4 h
  · rw [if_pos c3] at h
    refine u_aload_n (pc := 19) F dX11_takeNumber_19 1 rfl rfl ?_
    refine u_iconst (v := 1) (pc := 20) F dX11_takeNumber_20 (by decide) ?_
    refine u_aload_n (pc := 21) F dX11_takeNumber_21 1 rfl rfl ?_
    refine u_get1 (pc := 22) F dX11_takeNumber_22 (hL 11 0 0 (by decide) rfl) ck_11 fl_11_116 rfl (by decide) ?_
    obtain ⟨q20, hq20, h⟩ := d_bd_some h
    refine u_calli (pc := 25) F (As := [.int (1 : Int32), .int (q1.2 0 18)]) (c_X11_fails G hL (1 : Int32) (q1.2 0 18) (upM σ 11 0 q1.2) q1.2 (upM_same _ _ _ _) q20.1 q20.2 hq20) yv_X11_fails ml_11_127 (hL 11 0 0 (by decide) rfl) rfl (by decide) rfl rfl (Nat.le_of_ble_eq_true rfl) dX11_takeNumber_25 ?_
    refine u_mem (σ2 := (upM σ 11 0 q20.2)) (by first | (rw [upM_upM]; done) | (rw [upM_mid _ _ _ _ (by decide)]; done) | (rw [upM_mid _ _ _ _ (by decide), upM_upM]; done) | (rw [upM_mid _ _ _ _ (by decide), upM_mid _ _ _ _ (by decide)]; done)) ?_
    have h1 := Option.some.inj h
    obtain ⟨hj0, hr0⟩ := Prod.mk.inj h1
    subst hj0
    subst hr0
    exact hR _ _ rfl dX11_takeNumber_28
/- RollingCodesModel.into -/
def fX11_into (mo : Grp) (i1 n1 : Nat) (x2 : Int32) (x3 : Int32) (x4 : Int32) : Option (Int32 × Grp) :=
    d_bd (fX11_takeNumber mo x3 x4) fun q1 => d_ab x2 n1 <| d_lt (wr q1.2 (i1 + 1) x2.toNatClampNeg (q1.2 0 19)) fun g3 => some (q1.1, g3)
set_option maxHeartbeats 4000000 in
set_option maxRecDepth 100000 in
theorem c_X11_into (G : G0) (hL : Im G) (i1 n1 : Nat) (ha1 : fk 11 i1 = (1, n1)) (x2 : Int32) (x3 : Int32) (x4 : Int32) (σ : Mem) (mo : Grp) (e_mo : σ 11 0 = mo) (r : Int32) (mo' : Grp) (h : fX11_into mo i1 n1 x2 x3 x4 = some (r, mo')) :
    CI G yX11_into cX11_into 6 .int 3 [.ref (adr G (11, 0, 0)), .ref (adr G (11, 0, i1 + 1)), .int x2, .int x3, .int x4] σ r (upM σ 11 0 (mo')) := by
  refine CI.of (by decide +kernel) (Nat.le_of_ble_eq_true rfl) (fun Y hY F hR => ?_)
  unfold fX11_into at h
  have F : Fx Y G cX11_into RX11 3 := F
  refine u_mem (σ2 := (upM σ 11 0 mo)) (by rw [← e_mo]; simp only [upM_self]) ?_
  refine u_lv (lv' := [(0, .ref (adr G (11, 0, 0))), (1, .ref (adr G (11, 0, i1 + 1))), (2, .int x2), (3, .int x3), (4, .int x4)]) [0, 1, 2, 3, 4] rfl ?_
  refine u_aload_n (pc := 0) F dX11_into_0 0 rfl rfl ?_
  refine u_iload_n (pc := 1) F dX11_into_1 3 rfl rfl ?_
  refine u_iload (pc := 2) F dX11_into_2 4 rfl ?_
  obtain ⟨q1, hq1, h⟩ := d_bd_some h
  refine u_calli (pc := 4) F (As := [.int x3, .int x4]) (c_X11_takeNumber G hL x3 x4 (upM σ 11 0 mo) mo (upM_same _ _ _ _) q1.1 q1.2 hq1) yv_X11_takeNumber ml_11_134 (hL 11 0 0 (by decide) rfl) rfl (by decide) rfl rfl (Nat.le_of_ble_eq_true rfl) dX11_into_4 ?_
  refine u_mem (σ2 := (upM σ 11 0 q1.2)) (by first | (rw [upM_upM]; done) | (rw [upM_mid _ _ _ _ (by decide)]; done) | (rw [upM_mid _ _ _ _ (by decide), upM_upM]; done) | (rw [upM_mid _ _ _ _ (by decide), upM_mid _ _ _ _ (by decide)]; done)) ?_
  refine u_istore (lv' := [(5, .int q1.1), (0, .ref (adr G (11, 0, 0))), (1, .ref (adr G (11, 0, i1 + 1))), (2, .int x2), (3, .int x3), (4, .int x4)]) (pc := 7) F dX11_into_7 hY (by decide) rfl ?_
  refine u_aload_n (pc := 9) F dX11_into_9 2 rfl rfl ?_
  refine u_iload_n (pc := 10) F dX11_into_10 3 rfl rfl ?_
  refine u_aload_n (pc := 11) F dX11_into_11 1 rfl rfl ?_
  refine u_get1 (pc := 12) F dX11_into_12 (hL 11 0 0 (by decide) rfl) ck_11 fl_11_131 rfl (by decide) ?_
  obtain ⟨b2, h⟩ := d_ab_some h
  refine u_astI1 (pc := 15) F dX11_into_15 (hL 11 0 (i1 + 1) (by decide) (okj_of ha1 (by decide))) ha1 b2 ?_
  obtain ⟨g3, hg3, h⟩ := d_lt_some h
  refine u_mem (σ2 := (upM σ 11 0 g3)) (by rw [hg3]) ?_
  refine u_iload (pc := 16) F dX11_into_16 0 rfl ?_
  have h1 := Option.some.inj h
  obtain ⟨hj0, hr0⟩ := Prod.mk.inj h1
  subst hj0
  subst hr0
  exact hR _ _ rfl dX11_into_18
/- RollingCodesModel.takeEar -/
def fX11_takeEar (mo : Grp) : Option (Int32 × Grp) :=
    d_lt (wr mo 0 20 (1 : Int32)) fun g1 => d_bd (fX11_into g1 21 2 (0 : Int32) (0 : Int32) (9 : Int32)) fun q2 => if q2.1 ≤ 0 then (d_bd (fX11_into q2.2 21 2 (1 : Int32) (0 : Int32) (9 : Int32)) fun q4 => some (q4.1, q4.2)) else (some (q2.1, q2.2))
set_option maxHeartbeats 4000000 in
set_option maxRecDepth 100000 in
theorem c_X11_takeEar (G : G0) (hL : Im G) (σ : Mem) (mo : Grp) (e_mo : σ 11 0 = mo) (r : Int32) (mo' : Grp) (h : fX11_takeEar mo = some (r, mo')) :
    CI G yX11_takeEar cX11_takeEar 2 .int 4 [.ref (adr G (11, 0, 0))] σ r (upM σ 11 0 (mo')) := by
  refine CI.of (by decide +kernel) (Nat.le_of_ble_eq_true rfl) (fun Y hY F hR => ?_)
  unfold fX11_takeEar at h
  have F : Fx Y G cX11_takeEar RX11 4 := F
  refine u_mem (σ2 := (upM σ 11 0 mo)) (by rw [← e_mo]; simp only [upM_self]) ?_
  refine u_lv (lv' := [(0, .ref (adr G (11, 0, 0)))]) [0] rfl ?_
  refine u_aload_n (pc := 0) F dX11_takeEar_0 0 rfl rfl ?_
  refine u_iconst (v := 1) (pc := 1) F dX11_takeEar_1 (by decide) ?_
  refine u_put1 (pc := 2) F dX11_takeEar_2 (hL 11 0 0 (by decide) rfl) ck_11 fl_11_137 rfl (by decide) rfl (ty0 := .boolean) (by decide +kernel) rfl rfl ?_
  obtain ⟨g1, hg1, h⟩ := d_lt_some h
  refine u_mem (σ2 := (upM σ 11 0 g1)) (by rw [hg1]) ?_
  refine u_aload_n (pc := 5) F dX11_takeEar_5 0 rfl rfl ?_
  refine u_aload_n (pc := 6) F dX11_takeEar_6 0 rfl rfl ?_
  refine u_getA (pc := 7) F dX11_takeEar_7 (hL 11 0 0 (by decide) rfl) ck_11 fl_11_44 rfl (by decide) (by decide) ?_
  refine u_iconst (v := 0) (pc := 10) F dX11_takeEar_10 (by decide) ?_
  refine u_iconst (v := 0) (pc := 11) F dX11_takeEar_11 (by decide) ?_
  refine u_bipush (v := 9) (pc := 12) F dX11_takeEar_12 (by decide) ?_
  obtain ⟨q2, hq2, h⟩ := d_bd_some h
  refine u_calli (pc := 14) F (As := [.ref (adr G (11, 0, 22)), .int (0 : Int32), .int (0 : Int32), .int (9 : Int32)]) (c_X11_into G hL 21 2 rfl (0 : Int32) (0 : Int32) (9 : Int32) (upM σ 11 0 g1) g1 (upM_same _ _ _ _) q2.1 q2.2 hq2) yv_X11_into ml_11_141 (hL 11 0 0 (by decide) rfl) rfl (by decide) rfl rfl (Nat.le_of_ble_eq_true rfl) dX11_takeEar_14 ?_
  refine u_mem (σ2 := (upM σ 11 0 q2.2)) (by first | (rw [upM_upM]; done) | (rw [upM_mid _ _ _ _ (by decide)]; done) | (rw [upM_mid _ _ _ _ (by decide), upM_upM]; done) | (rw [upM_mid _ _ _ _ (by decide), upM_mid _ _ _ _ (by decide)]; done)) ?_
  refine u_istore_n (lv' := [(1, .int q2.1), (0, .ref (adr G (11, 0, 0)))]) (pc := 17) F dX11_takeEar_17 rfl hY (by decide) rfl ?_
  refine u_iload_n (pc := 18) F dX11_takeEar_18 0 rfl rfl ?_
  refine u_if_le (pc := 19) F 26 dX11_takeEar_19 (by decide) (fun c3 => ?_) (fun c3 => ?_)
  · rw [if_pos c3] at h
    refine u_aload_n (pc := 26) F dX11_takeEar_26 1 rfl rfl ?_
    refine u_aload_n (pc := 27) F dX11_takeEar_27 1 rfl rfl ?_
    refine u_getA (pc := 28) F dX11_takeEar_28 (hL 11 0 0 (by decide) rfl) ck_11 fl_11_44 rfl (by decide) (by decide) ?_
    refine u_iconst (v := 1) (pc := 31) F dX11_takeEar_31 (by decide) ?_
    refine u_iconst (v := 0) (pc := 32) F dX11_takeEar_32 (by decide) ?_
    refine u_bipush (v := 9) (pc := 33) F dX11_takeEar_33 (by decide) ?_
    obtain ⟨q4, hq4, h⟩ := d_bd_some h
    refine u_calli (pc := 35) F (As := [.ref (adr G (11, 0, 22)), .int (1 : Int32), .int (0 : Int32), .int (9 : Int32)]) (c_X11_into G hL 21 2 rfl (1 : Int32) (0 : Int32) (9 : Int32) (upM σ 11 0 q2.2) q2.2 (upM_same _ _ _ _) q4.1 q4.2 hq4) yv_X11_into ml_11_141 (hL 11 0 0 (by decide) rfl) rfl (by decide) rfl rfl (Nat.le_of_ble_eq_true rfl) dX11_takeEar_35 ?_
    refine u_mem (σ2 := (upM σ 11 0 q4.2)) (by first | (rw [upM_upM]; done) | (rw [upM_mid _ _ _ _ (by decide)]; done) | (rw [upM_mid _ _ _ _ (by decide), upM_upM]; done) | (rw [upM_mid _ _ _ _ (by decide), upM_mid _ _ _ _ (by decide)]; done)) ?_
    have h1 := Option.some.inj h
    obtain ⟨hj0, hr0⟩ := Prod.mk.inj h1
    subst hj0
    subst hr0
    exact hR _ _ rfl dX11_takeEar_38
  · rw [if_neg c3] at h
    refine u_iload_n (pc := 22) F dX11_takeEar_22 0 rfl rfl ?_
    refine u_goto (pc := 23) F 38 dX11_takeEar_23 (by decide) ?_
    have h1 := Option.some.inj h
    obtain ⟨hj0, hr0⟩ := Prod.mk.inj h1
    subst hj0
    subst hr0
    exact hR _ _ rfl dX11_takeEar_38
/- RollingCodesModel.takeGate -/
def fX11_takeGate_47  (mo : Grp) (x1 : Int32) (s0 : Int32) : Option (Int32 × Grp) :=
    if s0 ≤ 0 then (d_bd (fX11_into mo 25 4 x1 (1 : Int32) (32 : Int32)) fun q7 => some (q7.1, q7.2)) else (some (s0, mo))
def fX11_takeGate (mo : Grp) : Option (Int32 × Grp) :=
    d_lt (mo 0 22) fun v1 => d_lt (wr mo 0 22 ((mo 0 22) + (1 : Int32))) fun g2 => d_bd (fX11_into g2 23 4 v1 (0 : Int32) (3 : Int32)) fun q3 => if q3.1 ≤ 0 then (d_bd (fX11_into q3.2 24 4 v1 (0 : Int32) (9 : Int32)) fun q5 => fX11_takeGate_47 q5.2 v1 q5.1) else (fX11_takeGate_47 q3.2 v1 q3.1)
set_option maxHeartbeats 4000000 in
set_option maxRecDepth 100000 in
theorem wX11_takeGate_47 (Y : Dy) (G : G0) (hL : Im G) (σ : Mem) (F : Fx Y G cX11_takeGate RX11 4) (hY : Y.2.2.2.2.2.2.2.2.2.2.2.1 = 3) (r : Int32) (mo' : Grp) (hR : ∀ (pc : Nat) (lv : List (Nat × Value)), narrow .int (.int r) = .int r → decode cX11_takeGate pc = .ok (.ireturn, 1) → U Y G (upM σ 11 0 (mo')) pc lv [.int r]) :
    ∀ (mo : Grp) (x1 : Int32) (s0 : Int32), fX11_takeGate_47 mo x1 s0 = some (r, mo') → U Y G (upM σ 11 0 mo) 47 [(0, .ref (adr G (11, 0, 0))), (1, .int x1)] [.int s0] := by
  intro mo x1 s0 h
  unfold fX11_takeGate_47 at h
  refine u_istore_n (lv' := [(2, .int s0), (0, .ref (adr G (11, 0, 0))), (1, .int x1)]) (pc := 47) F dX11_takeGate_47 rfl hY (by decide) rfl ?_
  refine u_iload_n (pc := 48) F dX11_takeGate_48 0 rfl rfl ?_
  refine u_if_le (pc := 49) F 56 dX11_takeGate_49 (by decide) (fun c6 => ?_) (fun c6 => ?_)
  · rw [if_pos c6] at h
    refine u_aload_n (pc := 56) F dX11_takeGate_56 1 rfl rfl ?_
    refine u_aload_n (pc := 57) F dX11_takeGate_57 1 rfl rfl ?_
    refine u_getA (pc := 58) F dX11_takeGate_58 (hL 11 0 0 (by decide) rfl) ck_11 fl_11_53 rfl (by decide) (by decide) ?_
    refine u_iload_n (pc := 61) F dX11_takeGate_61 2 rfl rfl ?_
    refine u_iconst (v := 1) (pc := 62) F dX11_takeGate_62 (by decide) ?_
    refine u_bipush (v := 32) (pc := 63) F dX11_takeGate_63 (by decide) ?_
    obtain ⟨q7, hq7, h⟩ := d_bd_some h
    refine u_calli (pc := 65) F (As := [.ref (adr G (11, 0, 26)), .int x1, .int (1 : Int32), .int (32 : Int32)]) (c_X11_into G hL 25 4 rfl x1 (1 : Int32) (32 : Int32) (upM σ 11 0 mo) mo (upM_same _ _ _ _) q7.1 q7.2 hq7) yv_X11_into ml_11_141 (hL 11 0 0 (by decide) rfl) rfl (by decide) rfl rfl (Nat.le_of_ble_eq_true rfl) dX11_takeGate_65 ?_
    refine u_mem (σ2 := (upM σ 11 0 q7.2)) (by first | (rw [upM_upM]; done) | (rw [upM_mid _ _ _ _ (by decide)]; done) | (rw [upM_mid _ _ _ _ (by decide), upM_upM]; done) | (rw [upM_mid _ _ _ _ (by decide), upM_mid _ _ _ _ (by decide)]; done)) ?_
    have h1 := Option.some.inj h
    obtain ⟨hj0, hr0⟩ := Prod.mk.inj h1
    subst hj0
    subst hr0
    exact hR _ _ rfl dX11_takeGate_68
  · rw [if_neg c6] at h
    refine u_iload_n (pc := 52) F dX11_takeGate_52 0 rfl rfl ?_
    refine u_goto (pc := 53) F 68 dX11_takeGate_53 (by decide) ?_
    have h1 := Option.some.inj h
    obtain ⟨hj0, hr0⟩ := Prod.mk.inj h1
    subst hj0
    subst hr0
    exact hR _ _ rfl dX11_takeGate_68
set_option maxHeartbeats 4000000 in
set_option maxRecDepth 100000 in
theorem c_X11_takeGate (G : G0) (hL : Im G) (σ : Mem) (mo : Grp) (e_mo : σ 11 0 = mo) (r : Int32) (mo' : Grp) (h : fX11_takeGate mo = some (r, mo')) :
    CI G yX11_takeGate cX11_takeGate 3 .int 4 [.ref (adr G (11, 0, 0))] σ r (upM σ 11 0 (mo')) := by
  refine CI.of (by decide +kernel) (Nat.le_of_ble_eq_true rfl) (fun Y hY F hR => ?_)
  unfold fX11_takeGate at h
  have F : Fx Y G cX11_takeGate RX11 4 := F
  refine u_mem (σ2 := (upM σ 11 0 mo)) (by rw [← e_mo]; simp only [upM_self]) ?_
  refine u_lv (lv' := [(0, .ref (adr G (11, 0, 0)))]) [0] rfl ?_
  refine u_aload_n (pc := 0) F dX11_takeGate_0 0 rfl rfl ?_
  refine u_get1 (pc := 1) F dX11_takeGate_1 (hL 11 0 0 (by decide) rfl) ck_11 fl_11_145 rfl (by decide) ?_
  obtain ⟨v1, hv1, h⟩ := d_lt_some h
  refine u_topi hv1 ?_
  refine u_istore_n (lv' := [(1, .int v1), (0, .ref (adr G (11, 0, 0)))]) (pc := 4) F dX11_takeGate_4 rfl hY (by decide) rfl ?_
  refine u_aload_n (pc := 5) F dX11_takeGate_5 1 rfl rfl ?_
  refine u_dup (pc := 6) F dX11_takeGate_6 rfl ?_
  refine u_get1 (pc := 7) F dX11_takeGate_7 (hL 11 0 0 (by decide) rfl) ck_11 fl_11_145 rfl (by decide) ?_
  refine u_iconst (v := 1) (pc := 10) F dX11_takeGate_10 (by decide) ?_
  refine u_iadd (pc := 11) F dX11_takeGate_11 ?_
  refine u_put1 (pc := 12) F dX11_takeGate_12 (hL 11 0 0 (by decide) rfl) ck_11 fl_11_145 rfl (by decide) rfl (ty0 := .int) (by decide +kernel) rfl rfl ?_
  obtain ⟨g2, hg2, h⟩ := d_lt_some h
  refine u_mem (σ2 := (upM σ 11 0 g2)) (by rw [hg2]) ?_
  refine u_aload_n (pc := 15) F dX11_takeGate_15 1 rfl rfl ?_
  refine u_aload_n (pc := 16) F dX11_takeGate_16 1 rfl rfl ?_
  refine u_getA (pc := 17) F dX11_takeGate_17 (hL 11 0 0 (by decide) rfl) ck_11 fl_11_47 rfl (by decide) (by decide) ?_
  refine u_iload_n (pc := 20) F dX11_takeGate_20 0 rfl rfl ?_
  refine u_iconst (v := 0) (pc := 21) F dX11_takeGate_21 (by decide) ?_
  refine u_iconst (v := 3) (pc := 22) F dX11_takeGate_22 (by decide) ?_
  obtain ⟨q3, hq3, h⟩ := d_bd_some h
  refine u_calli (pc := 23) F (As := [.ref (adr G (11, 0, 24)), .int v1, .int (0 : Int32), .int (3 : Int32)]) (c_X11_into G hL 23 4 rfl v1 (0 : Int32) (3 : Int32) (upM σ 11 0 g2) g2 (upM_same _ _ _ _) q3.1 q3.2 hq3) yv_X11_into ml_11_141 (hL 11 0 0 (by decide) rfl) rfl (by decide) rfl rfl (Nat.le_of_ble_eq_true rfl) dX11_takeGate_23 ?_
  refine u_mem (σ2 := (upM σ 11 0 q3.2)) (by first | (rw [upM_upM]; done) | (rw [upM_mid _ _ _ _ (by decide)]; done) | (rw [upM_mid _ _ _ _ (by decide), upM_upM]; done) | (rw [upM_mid _ _ _ _ (by decide), upM_mid _ _ _ _ (by decide)]; done)) ?_
  refine u_istore_n (lv' := [(2, .int q3.1), (1, .int v1), (0, .ref (adr G (11, 0, 0)))]) (pc := 26) F dX11_takeGate_26 rfl hY (by decide) rfl ?_
  refine u_iload_n (pc := 27) F dX11_takeGate_27 0 rfl rfl ?_
  refine u_if_le (pc := 28) F 35 dX11_takeGate_28 (by decide) (fun c4 => ?_) (fun c4 => ?_)
  · rw [if_pos c4] at h
    refine u_aload_n (pc := 35) F dX11_takeGate_35 2 rfl rfl ?_
    refine u_aload_n (pc := 36) F dX11_takeGate_36 2 rfl rfl ?_
    refine u_getA (pc := 37) F dX11_takeGate_37 (hL 11 0 0 (by decide) rfl) ck_11 fl_11_50 rfl (by decide) (by decide) ?_
    refine u_iload_n (pc := 40) F dX11_takeGate_40 1 rfl rfl ?_
    refine u_iconst (v := 0) (pc := 41) F dX11_takeGate_41 (by decide) ?_
    refine u_bipush (v := 9) (pc := 42) F dX11_takeGate_42 (by decide) ?_
    obtain ⟨q5, hq5, h⟩ := d_bd_some h
    refine u_calli (pc := 44) F (As := [.ref (adr G (11, 0, 25)), .int v1, .int (0 : Int32), .int (9 : Int32)]) (c_X11_into G hL 24 4 rfl v1 (0 : Int32) (9 : Int32) (upM σ 11 0 q3.2) q3.2 (upM_same _ _ _ _) q5.1 q5.2 hq5) yv_X11_into ml_11_141 (hL 11 0 0 (by decide) rfl) rfl (by decide) rfl rfl (Nat.le_of_ble_eq_true rfl) dX11_takeGate_44 ?_
    refine u_mem (σ2 := (upM σ 11 0 q5.2)) (by first | (rw [upM_upM]; done) | (rw [upM_mid _ _ _ _ (by decide)]; done) | (rw [upM_mid _ _ _ _ (by decide), upM_upM]; done) | (rw [upM_mid _ _ _ _ (by decide), upM_mid _ _ _ _ (by decide)]; done)) ?_
    refine u_lv (lv' := [(0, .ref (adr G (11, 0, 0))), (1, .int v1)]) [2, 1] rfl ?_
    exact wX11_takeGate_47 Y G hL σ F hY r mo' hR q5.2 v1 q5.1 h
  · rw [if_neg c4] at h
    refine u_iload_n (pc := 31) F dX11_takeGate_31 0 rfl rfl ?_
    refine u_goto (pc := 32) F 47 dX11_takeGate_32 (by decide) ?_
    refine u_lv (lv' := [(0, .ref (adr G (11, 0, 0))), (1, .int v1)]) [2, 1] rfl ?_
    exact wX11_takeGate_47 Y G hL σ F hY r mo' hR q3.2 v1 q3.1 h
/- RollingCodesModel.takeFob -/
def fX11_takeFob_90  (mo : Grp) (x1 : Int32) (s0 : Int32) : Option (Int32 × Grp) :=
    if s0 ≤ 0 then (d_bd (fX11_into mo 31 5 x1 (0 : Int32) (999 : Int32)) fun q11 => some (q11.1, q11.2)) else (some (s0, mo))
def fX11_takeFob_68  (mo : Grp) (x1 : Int32) (s0 : Int32) : Option (Int32 × Grp) :=
    if s0 ≤ 0 then (d_bd (fX11_into mo 30 5 x1 (0 : Int32) (255 : Int32)) fun q9 => fX11_takeFob_90 q9.2 x1 q9.1) else (fX11_takeFob_90 mo x1 s0)
def fX11_takeFob_47  (mo : Grp) (x1 : Int32) (s0 : Int32) : Option (Int32 × Grp) :=
    if s0 ≤ 0 then (d_bd (fX11_into mo 29 5 x1 (0 : Int32) (9 : Int32)) fun q7 => fX11_takeFob_68 q7.2 x1 q7.1) else (fX11_takeFob_68 mo x1 s0)
def fX11_takeFob (mo : Grp) : Option (Int32 × Grp) :=
    d_lt (mo 0 26) fun v1 => d_lt (wr mo 0 26 ((mo 0 26) + (1 : Int32))) fun g2 => d_bd (fX11_into g2 27 5 v1 (0 : Int32) (3 : Int32)) fun q3 => if q3.1 ≤ 0 then (d_bd (fX11_into q3.2 28 5 v1 (0 : Int32) (9 : Int32)) fun q5 => fX11_takeFob_47 q5.2 v1 q5.1) else (fX11_takeFob_47 q3.2 v1 q3.1)
set_option maxHeartbeats 4000000 in
set_option maxRecDepth 100000 in
theorem wX11_takeFob_90 (Y : Dy) (G : G0) (hL : Im G) (σ : Mem) (F : Fx Y G cX11_takeFob RX11 4) (hY : Y.2.2.2.2.2.2.2.2.2.2.2.1 = 3) (r : Int32) (mo' : Grp) (hR : ∀ (pc : Nat) (lv : List (Nat × Value)), narrow .int (.int r) = .int r → decode cX11_takeFob pc = .ok (.ireturn, 1) → U Y G (upM σ 11 0 (mo')) pc lv [.int r]) :
    ∀ (mo : Grp) (x1 : Int32) (s0 : Int32), fX11_takeFob_90 mo x1 s0 = some (r, mo') → U Y G (upM σ 11 0 mo) 90 [(0, .ref (adr G (11, 0, 0))), (1, .int x1)] [.int s0] := by
  intro mo x1 s0 h
  unfold fX11_takeFob_90 at h
  refine u_istore_n (lv' := [(2, .int s0), (0, .ref (adr G (11, 0, 0))), (1, .int x1)]) (pc := 90) F dX11_takeFob_90 rfl hY (by decide) rfl ?_
  refine u_iload_n (pc := 91) F dX11_takeFob_91 0 rfl rfl ?_
  refine u_if_le (pc := 92) F 99 dX11_takeFob_92 (by decide) (fun c10 => ?_) (fun c10 => ?_)
  · rw [if_pos c10] at h
    refine u_aload_n (pc := 99) F dX11_takeFob_99 1 rfl rfl ?_
    refine u_aload_n (pc := 100) F dX11_takeFob_100 1 rfl rfl ?_
    refine u_getA (pc := 101) F dX11_takeFob_101 (hL 11 0 0 (by decide) rfl) ck_11 fl_11_68 rfl (by decide) (by decide) ?_
    refine u_iload_n (pc := 104) F dX11_takeFob_104 2 rfl rfl ?_
    refine u_iconst (v := 0) (pc := 105) F dX11_takeFob_105 (by decide) ?_
    refine u_sipush (v := 999) (pc := 106) F dX11_takeFob_106 (by decide) ?_
    obtain ⟨q11, hq11, h⟩ := d_bd_some h
    refine u_calli (pc := 109) F (As := [.ref (adr G (11, 0, 32)), .int x1, .int (0 : Int32), .int (999 : Int32)]) (c_X11_into G hL 31 5 rfl x1 (0 : Int32) (999 : Int32) (upM σ 11 0 mo) mo (upM_same _ _ _ _) q11.1 q11.2 hq11) yv_X11_into ml_11_141 (hL 11 0 0 (by decide) rfl) rfl (by decide) rfl rfl (Nat.le_of_ble_eq_true rfl) dX11_takeFob_109 ?_
    refine u_mem (σ2 := (upM σ 11 0 q11.2)) (by first | (rw [upM_upM]; done) | (rw [upM_mid _ _ _ _ (by decide)]; done) | (rw [upM_mid _ _ _ _ (by decide), upM_upM]; done) | (rw [upM_mid _ _ _ _ (by decide), upM_mid _ _ _ _ (by decide)]; done)) ?_
    have h1 := Option.some.inj h
    obtain ⟨hj0, hr0⟩ := Prod.mk.inj h1
    subst hj0
    subst hr0
    exact hR _ _ rfl dX11_takeFob_112
  · rw [if_neg c10] at h
    refine u_iload_n (pc := 95) F dX11_takeFob_95 0 rfl rfl ?_
    refine u_goto (pc := 96) F 112 dX11_takeFob_96 (by decide) ?_
    have h1 := Option.some.inj h
    obtain ⟨hj0, hr0⟩ := Prod.mk.inj h1
    subst hj0
    subst hr0
    exact hR _ _ rfl dX11_takeFob_112
set_option maxHeartbeats 4000000 in
set_option maxRecDepth 100000 in
theorem wX11_takeFob_68 (Y : Dy) (G : G0) (hL : Im G) (σ : Mem) (F : Fx Y G cX11_takeFob RX11 4) (hY : Y.2.2.2.2.2.2.2.2.2.2.2.1 = 3) (r : Int32) (mo' : Grp) (hR : ∀ (pc : Nat) (lv : List (Nat × Value)), narrow .int (.int r) = .int r → decode cX11_takeFob pc = .ok (.ireturn, 1) → U Y G (upM σ 11 0 (mo')) pc lv [.int r]) :
    ∀ (mo : Grp) (x1 : Int32) (s0 : Int32), fX11_takeFob_68 mo x1 s0 = some (r, mo') → U Y G (upM σ 11 0 mo) 68 [(0, .ref (adr G (11, 0, 0))), (1, .int x1)] [.int s0] := by
  intro mo x1 s0 h
  unfold fX11_takeFob_68 at h
  refine u_istore_n (lv' := [(2, .int s0), (0, .ref (adr G (11, 0, 0))), (1, .int x1)]) (pc := 68) F dX11_takeFob_68 rfl hY (by decide) rfl ?_
  refine u_iload_n (pc := 69) F dX11_takeFob_69 0 rfl rfl ?_
  refine u_if_le (pc := 70) F 77 dX11_takeFob_70 (by decide) (fun c8 => ?_) (fun c8 => ?_)
  · rw [if_pos c8] at h
    refine u_aload_n (pc := 77) F dX11_takeFob_77 1 rfl rfl ?_
    refine u_aload_n (pc := 78) F dX11_takeFob_78 1 rfl rfl ?_
    refine u_getA (pc := 79) F dX11_takeFob_79 (hL 11 0 0 (by decide) rfl) ck_11 fl_11_65 rfl (by decide) (by decide) ?_
    refine u_iload_n (pc := 82) F dX11_takeFob_82 2 rfl rfl ?_
    refine u_iconst (v := 0) (pc := 83) F dX11_takeFob_83 (by decide) ?_
    refine u_sipush (v := 255) (pc := 84) F dX11_takeFob_84 (by decide) ?_
    obtain ⟨q9, hq9, h⟩ := d_bd_some h
    refine u_calli (pc := 87) F (As := [.ref (adr G (11, 0, 31)), .int x1, .int (0 : Int32), .int (255 : Int32)]) (c_X11_into G hL 30 5 rfl x1 (0 : Int32) (255 : Int32) (upM σ 11 0 mo) mo (upM_same _ _ _ _) q9.1 q9.2 hq9) yv_X11_into ml_11_141 (hL 11 0 0 (by decide) rfl) rfl (by decide) rfl rfl (Nat.le_of_ble_eq_true rfl) dX11_takeFob_87 ?_
    refine u_mem (σ2 := (upM σ 11 0 q9.2)) (by first | (rw [upM_upM]; done) | (rw [upM_mid _ _ _ _ (by decide)]; done) | (rw [upM_mid _ _ _ _ (by decide), upM_upM]; done) | (rw [upM_mid _ _ _ _ (by decide), upM_mid _ _ _ _ (by decide)]; done)) ?_
    refine u_lv (lv' := [(0, .ref (adr G (11, 0, 0))), (1, .int x1)]) [1, 2] rfl ?_
    exact wX11_takeFob_90 Y G hL σ F hY r mo' hR q9.2 x1 q9.1 h
  · rw [if_neg c8] at h
    refine u_iload_n (pc := 73) F dX11_takeFob_73 0 rfl rfl ?_
    refine u_goto (pc := 74) F 90 dX11_takeFob_74 (by decide) ?_
    refine u_lv (lv' := [(0, .ref (adr G (11, 0, 0))), (1, .int x1)]) [1, 2] rfl ?_
    exact wX11_takeFob_90 Y G hL σ F hY r mo' hR mo x1 s0 h
set_option maxHeartbeats 4000000 in
set_option maxRecDepth 100000 in
theorem wX11_takeFob_47 (Y : Dy) (G : G0) (hL : Im G) (σ : Mem) (F : Fx Y G cX11_takeFob RX11 4) (hY : Y.2.2.2.2.2.2.2.2.2.2.2.1 = 3) (r : Int32) (mo' : Grp) (hR : ∀ (pc : Nat) (lv : List (Nat × Value)), narrow .int (.int r) = .int r → decode cX11_takeFob pc = .ok (.ireturn, 1) → U Y G (upM σ 11 0 (mo')) pc lv [.int r]) :
    ∀ (mo : Grp) (x1 : Int32) (s0 : Int32), fX11_takeFob_47 mo x1 s0 = some (r, mo') → U Y G (upM σ 11 0 mo) 47 [(0, .ref (adr G (11, 0, 0))), (1, .int x1)] [.int s0] := by
  intro mo x1 s0 h
  unfold fX11_takeFob_47 at h
  refine u_istore_n (lv' := [(2, .int s0), (0, .ref (adr G (11, 0, 0))), (1, .int x1)]) (pc := 47) F dX11_takeFob_47 rfl hY (by decide) rfl ?_
  refine u_iload_n (pc := 48) F dX11_takeFob_48 0 rfl rfl ?_
  refine u_if_le (pc := 49) F 56 dX11_takeFob_49 (by decide) (fun c6 => ?_) (fun c6 => ?_)
  · rw [if_pos c6] at h
    refine u_aload_n (pc := 56) F dX11_takeFob_56 1 rfl rfl ?_
    refine u_aload_n (pc := 57) F dX11_takeFob_57 1 rfl rfl ?_
    refine u_getA (pc := 58) F dX11_takeFob_58 (hL 11 0 0 (by decide) rfl) ck_11 fl_11_62 rfl (by decide) (by decide) ?_
    refine u_iload_n (pc := 61) F dX11_takeFob_61 2 rfl rfl ?_
    refine u_iconst (v := 0) (pc := 62) F dX11_takeFob_62 (by decide) ?_
    refine u_bipush (v := 9) (pc := 63) F dX11_takeFob_63 (by decide) ?_
    obtain ⟨q7, hq7, h⟩ := d_bd_some h
    refine u_calli (pc := 65) F (As := [.ref (adr G (11, 0, 30)), .int x1, .int (0 : Int32), .int (9 : Int32)]) (c_X11_into G hL 29 5 rfl x1 (0 : Int32) (9 : Int32) (upM σ 11 0 mo) mo (upM_same _ _ _ _) q7.1 q7.2 hq7) yv_X11_into ml_11_141 (hL 11 0 0 (by decide) rfl) rfl (by decide) rfl rfl (Nat.le_of_ble_eq_true rfl) dX11_takeFob_65 ?_
    refine u_mem (σ2 := (upM σ 11 0 q7.2)) (by first | (rw [upM_upM]; done) | (rw [upM_mid _ _ _ _ (by decide)]; done) | (rw [upM_mid _ _ _ _ (by decide), upM_upM]; done) | (rw [upM_mid _ _ _ _ (by decide), upM_mid _ _ _ _ (by decide)]; done)) ?_
    refine u_lv (lv' := [(0, .ref (adr G (11, 0, 0))), (1, .int x1)]) [1, 2] rfl ?_
    exact wX11_takeFob_68 Y G hL σ F hY r mo' hR q7.2 x1 q7.1 h
  · rw [if_neg c6] at h
    refine u_iload_n (pc := 52) F dX11_takeFob_52 0 rfl rfl ?_
    refine u_goto (pc := 53) F 68 dX11_takeFob_53 (by decide) ?_
    refine u_lv (lv' := [(0, .ref (adr G (11, 0, 0))), (1, .int x1)]) [1, 2] rfl ?_
    exact wX11_takeFob_68 Y G hL σ F hY r mo' hR mo x1 s0 h
set_option maxHeartbeats 4000000 in
set_option maxRecDepth 100000 in
theorem c_X11_takeFob (G : G0) (hL : Im G) (σ : Mem) (mo : Grp) (e_mo : σ 11 0 = mo) (r : Int32) (mo' : Grp) (h : fX11_takeFob mo = some (r, mo')) :
    CI G yX11_takeFob cX11_takeFob 3 .int 4 [.ref (adr G (11, 0, 0))] σ r (upM σ 11 0 (mo')) := by
  refine CI.of (by decide +kernel) (Nat.le_of_ble_eq_true rfl) (fun Y hY F hR => ?_)
  unfold fX11_takeFob at h
  have F : Fx Y G cX11_takeFob RX11 4 := F
  refine u_mem (σ2 := (upM σ 11 0 mo)) (by rw [← e_mo]; simp only [upM_self]) ?_
  refine u_lv (lv' := [(0, .ref (adr G (11, 0, 0)))]) [0] rfl ?_
  refine u_aload_n (pc := 0) F dX11_takeFob_0 0 rfl rfl ?_
  refine u_get1 (pc := 1) F dX11_takeFob_1 (hL 11 0 0 (by decide) rfl) ck_11 fl_11_148 rfl (by decide) ?_
  obtain ⟨v1, hv1, h⟩ := d_lt_some h
  refine u_topi hv1 ?_
  refine u_istore_n (lv' := [(1, .int v1), (0, .ref (adr G (11, 0, 0)))]) (pc := 4) F dX11_takeFob_4 rfl hY (by decide) rfl ?_
  refine u_aload_n (pc := 5) F dX11_takeFob_5 1 rfl rfl ?_
  refine u_dup (pc := 6) F dX11_takeFob_6 rfl ?_
  refine u_get1 (pc := 7) F dX11_takeFob_7 (hL 11 0 0 (by decide) rfl) ck_11 fl_11_148 rfl (by decide) ?_
  refine u_iconst (v := 1) (pc := 10) F dX11_takeFob_10 (by decide) ?_
  refine u_iadd (pc := 11) F dX11_takeFob_11 ?_
  refine u_put1 (pc := 12) F dX11_takeFob_12 (hL 11 0 0 (by decide) rfl) ck_11 fl_11_148 rfl (by decide) rfl (ty0 := .int) (by decide +kernel) rfl rfl ?_
  obtain ⟨g2, hg2, h⟩ := d_lt_some h
  refine u_mem (σ2 := (upM σ 11 0 g2)) (by rw [hg2]) ?_
  refine u_aload_n (pc := 15) F dX11_takeFob_15 1 rfl rfl ?_
  refine u_aload_n (pc := 16) F dX11_takeFob_16 1 rfl rfl ?_
  refine u_getA (pc := 17) F dX11_takeFob_17 (hL 11 0 0 (by decide) rfl) ck_11 fl_11_56 rfl (by decide) (by decide) ?_
  refine u_iload_n (pc := 20) F dX11_takeFob_20 0 rfl rfl ?_
  refine u_iconst (v := 0) (pc := 21) F dX11_takeFob_21 (by decide) ?_
  refine u_iconst (v := 3) (pc := 22) F dX11_takeFob_22 (by decide) ?_
  obtain ⟨q3, hq3, h⟩ := d_bd_some h
  refine u_calli (pc := 23) F (As := [.ref (adr G (11, 0, 28)), .int v1, .int (0 : Int32), .int (3 : Int32)]) (c_X11_into G hL 27 5 rfl v1 (0 : Int32) (3 : Int32) (upM σ 11 0 g2) g2 (upM_same _ _ _ _) q3.1 q3.2 hq3) yv_X11_into ml_11_141 (hL 11 0 0 (by decide) rfl) rfl (by decide) rfl rfl (Nat.le_of_ble_eq_true rfl) dX11_takeFob_23 ?_
  refine u_mem (σ2 := (upM σ 11 0 q3.2)) (by first | (rw [upM_upM]; done) | (rw [upM_mid _ _ _ _ (by decide)]; done) | (rw [upM_mid _ _ _ _ (by decide), upM_upM]; done) | (rw [upM_mid _ _ _ _ (by decide), upM_mid _ _ _ _ (by decide)]; done)) ?_
  refine u_istore_n (lv' := [(2, .int q3.1), (1, .int v1), (0, .ref (adr G (11, 0, 0)))]) (pc := 26) F dX11_takeFob_26 rfl hY (by decide) rfl ?_
  refine u_iload_n (pc := 27) F dX11_takeFob_27 0 rfl rfl ?_
  refine u_if_le (pc := 28) F 35 dX11_takeFob_28 (by decide) (fun c4 => ?_) (fun c4 => ?_)
  · rw [if_pos c4] at h
    refine u_aload_n (pc := 35) F dX11_takeFob_35 2 rfl rfl ?_
    refine u_aload_n (pc := 36) F dX11_takeFob_36 2 rfl rfl ?_
    refine u_getA (pc := 37) F dX11_takeFob_37 (hL 11 0 0 (by decide) rfl) ck_11 fl_11_59 rfl (by decide) (by decide) ?_
    refine u_iload_n (pc := 40) F dX11_takeFob_40 1 rfl rfl ?_
    refine u_iconst (v := 0) (pc := 41) F dX11_takeFob_41 (by decide) ?_
    refine u_bipush (v := 9) (pc := 42) F dX11_takeFob_42 (by decide) ?_
    obtain ⟨q5, hq5, h⟩ := d_bd_some h
    refine u_calli (pc := 44) F (As := [.ref (adr G (11, 0, 29)), .int v1, .int (0 : Int32), .int (9 : Int32)]) (c_X11_into G hL 28 5 rfl v1 (0 : Int32) (9 : Int32) (upM σ 11 0 q3.2) q3.2 (upM_same _ _ _ _) q5.1 q5.2 hq5) yv_X11_into ml_11_141 (hL 11 0 0 (by decide) rfl) rfl (by decide) rfl rfl (Nat.le_of_ble_eq_true rfl) dX11_takeFob_44 ?_
    refine u_mem (σ2 := (upM σ 11 0 q5.2)) (by first | (rw [upM_upM]; done) | (rw [upM_mid _ _ _ _ (by decide)]; done) | (rw [upM_mid _ _ _ _ (by decide), upM_upM]; done) | (rw [upM_mid _ _ _ _ (by decide), upM_mid _ _ _ _ (by decide)]; done)) ?_
    refine u_lv (lv' := [(0, .ref (adr G (11, 0, 0))), (1, .int v1)]) [2, 1] rfl ?_
    exact wX11_takeFob_47 Y G hL σ F hY r mo' hR q5.2 v1 q5.1 h
  · rw [if_neg c4] at h
    refine u_iload_n (pc := 31) F dX11_takeFob_31 0 rfl rfl ?_
    refine u_goto (pc := 32) F 47 dX11_takeFob_32 (by decide) ?_
    refine u_lv (lv' := [(0, .ref (adr G (11, 0, 0))), (1, .int v1)]) [2, 1] rfl ?_
    exact wX11_takeFob_47 Y G hL σ F hY r mo' hR q3.2 v1 q3.1 h
/- RollingCodesModel.takeClause -/
def fX11_takeClause_52  (mo : Grp)  : Option (Int32 × Grp) :=
    d_bd (fX11_fails mo (1 : Int32) (mo 0 18)) fun q6 => some (q6.1, q6.2)
def fX11_takeClause_185  (mo : Grp) (x4 : Int32) : Option (Int32 × Grp) :=
    d_lt (wr mo 0 18 ((mo 0 18) + (1 : Int32))) fun g17 => some (x4, g17)
def fX11_takeClause_159  (mo : Grp) (s0 : Int32) : Option (Int32 × Grp) :=
    if s0 = 0 then (d_bd (fX11_here mo) fun q18 => if q18.1 = (59 : Int32) then (fX11_takeClause_185 q18.2 s0) else (d_bd (fX11_fails q18.2 (1 : Int32) (q18.2 0 18)) fun q20 => some (q20.1, q20.2))) else (fX11_takeClause_185 mo s0)
def fX11_takeClause_107  (mo : Grp) (x2 : Int32) (s0 : Int32) : Option (Int32 × Grp) :=
    if s0 = 0 then (d_lt (wr mo 0 18 ((mo 0 18) + (1 : Int32))) fun g12 => if x2 = 0 then (d_bd (fX11_takeEar g12) fun q22 => fX11_takeClause_159 q22.2 q22.1) else (if x2 = (1 : Int32) then (d_bd (fX11_takeGate g12) fun q21 => fX11_takeClause_159 q21.2 q21.1) else (d_bd (fX11_takeFob g12) fun q15 => fX11_takeClause_159 q15.2 q15.1))) else (d_bd (fX11_fails mo (3 : Int32) (mo 0 18)) fun q23 => some (q23.1, q23.2))
def fX11_takeClause_62  (mo : Grp) (x2 : Int32) : Option (Int32 × Grp) :=
    if x2 = 0 then (fX11_takeClause_107 mo x2 (mo 0 20)) else (if x2 = (1 : Int32) then (if (mo 0 22) = (4 : Int32) then (fX11_takeClause_107 mo x2 (1 : Int32)) else (fX11_takeClause_107 mo x2 (0 : Int32))) else (if (mo 0 26) = (5 : Int32) then (fX11_takeClause_107 mo x2 (1 : Int32)) else (fX11_takeClause_107 mo x2 (0 : Int32))))
def fX11_takeClause_36  (mo : Grp) (s0 : Int32) : Option (Int32 × Grp) :=
    if s0 < 0 then (fX11_takeClause_52 mo) else (if s0 ≤ 0 then (fX11_takeClause_62 mo s0) else (if (mo 0 20) = 0 then (fX11_takeClause_52 mo) else (fX11_takeClause_62 mo s0)))
def fX11_takeClause (mo : Grp) : Option (Int32 × Grp) :=
    d_bd (fX11_here mo) fun q1 => if q1.1 = (101 : Int32) then (fX11_takeClause_36 q1.2 (0 : Int32)) else (if q1.1 = (103 : Int32) then (fX11_takeClause_36 q1.2 (1 : Int32)) else (if q1.1 = (102 : Int32) then (fX11_takeClause_36 q1.2 (2 : Int32)) else (fX11_takeClause_36 q1.2 (-1 : Int32))))
set_option maxHeartbeats 4000000 in
set_option maxRecDepth 100000 in
theorem wX11_takeClause_52 (Y : Dy) (G : G0) (hL : Im G) (σ : Mem) (F : Fx Y G cX11_takeClause RX11 5) (hY : Y.2.2.2.2.2.2.2.2.2.2.2.1 = 5) (r : Int32) (mo' : Grp) (hR : ∀ (pc : Nat) (lv : List (Nat × Value)), narrow .int (.int r) = .int r → decode cX11_takeClause pc = .ok (.ireturn, 1) → U Y G (upM σ 11 0 (mo')) pc lv [.int r]) :
    ∀ (mo : Grp), fX11_takeClause_52 mo = some (r, mo') → U Y G (upM σ 11 0 mo) 52 [(0, .ref (adr G (11, 0, 0)))] [] := by
  intro mo h
  unfold fX11_takeClause_52 at h
  refine u_aload_n (pc := 52) F dX11_takeClause_52 0 rfl rfl ?_
  refine u_iconst (v := 1) (pc := 53) F dX11_takeClause_53 (by decide) ?_
  refine u_aload_n (pc := 54) F dX11_takeClause_54 0 rfl rfl ?_
  refine u_get1 (pc := 55) F dX11_takeClause_55 (hL 11 0 0 (by decide) rfl) ck_11 fl_11_116 rfl (by decide) ?_
  obtain ⟨q6, hq6, h⟩ := d_bd_some h
  refine u_calli (pc := 58) F (As := [.int (1 : Int32), .int (mo 0 18)]) (c_X11_fails G hL (1 : Int32) (mo 0 18) (upM σ 11 0 mo) mo (upM_same _ _ _ _) q6.1 q6.2 hq6) yv_X11_fails ml_11_127 (hL 11 0 0 (by decide) rfl) rfl (by decide) rfl rfl (Nat.le_of_ble_eq_true rfl) dX11_takeClause_58 ?_
  refine u_mem (σ2 := (upM σ 11 0 q6.2)) (by first | (rw [upM_upM]; done) | (rw [upM_mid _ _ _ _ (by decide)]; done) | (rw [upM_mid _ _ _ _ (by decide), upM_upM]; done) | (rw [upM_mid _ _ _ _ (by decide), upM_mid _ _ _ _ (by decide)]; done)) ?_
  have h1 := Option.some.inj h
  obtain ⟨hj0, hr0⟩ := Prod.mk.inj h1
  subst hj0
  subst hr0
  exact hR _ _ rfl dX11_takeClause_61
set_option maxHeartbeats 4000000 in
set_option maxRecDepth 100000 in
theorem wX11_takeClause_185 (Y : Dy) (G : G0) (hL : Im G) (σ : Mem) (F : Fx Y G cX11_takeClause RX11 5) (hY : Y.2.2.2.2.2.2.2.2.2.2.2.1 = 5) (r : Int32) (mo' : Grp) (hR : ∀ (pc : Nat) (lv : List (Nat × Value)), narrow .int (.int r) = .int r → decode cX11_takeClause pc = .ok (.ireturn, 1) → U Y G (upM σ 11 0 (mo')) pc lv [.int r]) :
    ∀ (mo : Grp) (x4 : Int32), fX11_takeClause_185 mo x4 = some (r, mo') → U Y G (upM σ 11 0 mo) 185 [(0, .ref (adr G (11, 0, 0))), (4, .int x4)] [] := by
  intro mo x4 h
  unfold fX11_takeClause_185 at h
  refine u_aload_n (pc := 185) F dX11_takeClause_185 0 rfl rfl ?_
  refine u_dup (pc := 186) F dX11_takeClause_186 rfl ?_
  refine u_get1 (pc := 187) F dX11_takeClause_187 (hL 11 0 0 (by decide) rfl) ck_11 fl_11_116 rfl (by decide) ?_
  refine u_iconst (v := 1) (pc := 190) F dX11_takeClause_190 (by decide) ?_
  refine u_iadd (pc := 191) F dX11_takeClause_191 ?_
  refine u_put1 (pc := 192) F dX11_takeClause_192 (hL 11 0 0 (by decide) rfl) ck_11 fl_11_116 rfl (by decide) rfl (ty0 := .int) (by decide +kernel) rfl rfl ?_
  obtain ⟨g17, hg17, h⟩ := d_lt_some h
  refine u_mem (σ2 := (upM σ 11 0 g17)) (by rw [hg17]) ?_
  refine u_iload (pc := 195) F dX11_takeClause_195 1 rfl ?_
  have h1 := Option.some.inj h
  obtain ⟨hj0, hr0⟩ := Prod.mk.inj h1
  subst hj0
  subst hr0
  exact hR _ _ rfl dX11_takeClause_197
set_option maxHeartbeats 4000000 in
set_option maxRecDepth 100000 in
theorem wX11_takeClause_159 (Y : Dy) (G : G0) (hL : Im G) (σ : Mem) (F : Fx Y G cX11_takeClause RX11 5) (hY : Y.2.2.2.2.2.2.2.2.2.2.2.1 = 5) (r : Int32) (mo' : Grp) (hR : ∀ (pc : Nat) (lv : List (Nat × Value)), narrow .int (.int r) = .int r → decode cX11_takeClause pc = .ok (.ireturn, 1) → U Y G (upM σ 11 0 (mo')) pc lv [.int r]) :
    ∀ (mo : Grp) (s0 : Int32), fX11_takeClause_159 mo s0 = some (r, mo') → U Y G (upM σ 11 0 mo) 159 [(0, .ref (adr G (11, 0, 0)))] [.int s0] := by
  intro mo s0 h
  unfold fX11_takeClause_159 at h
  refine u_istore (lv' := [(4, .int s0), (0, .ref (adr G (11, 0, 0)))]) (pc := 159) F dX11_takeClause_159 hY (by decide) rfl ?_
  refine u_iload (pc := 161) F dX11_takeClause_161 0 rfl ?_
  refine u_if_ne (pc := 163) F 185 dX11_takeClause_163 (by decide) (fun c16 => ?_) (fun c16 => ?_)
  · rw [if_neg c16] at h
    refine u_lv (lv' := [(0, .ref (adr G (11, 0, 0))), (4, .int s0)]) [1, 0] rfl ?_
    exact wX11_takeClause_185 Y G hL σ F hY r mo' hR mo s0 h
  · rw [if_pos c16] at h
    refine u_aload_n (pc := 166) F dX11_takeClause_166 1 rfl rfl ?_
    obtain ⟨q18, hq18, h⟩ := d_bd_some h
    refine u_calli (pc := 167) F (As := []) (c_X11_here G hL (upM σ 11 0 mo) mo (upM_same _ _ _ _) q18.1 q18.2 hq18) yv_X11_here ml_11_119 (hL 11 0 0 (by decide) rfl) rfl (by decide) rfl rfl (Nat.le_of_ble_eq_true rfl) dX11_takeClause_167 ?_
    refine u_mem (σ2 := (upM σ 11 0 q18.2)) (by first | (rw [upM_upM]; done) | (rw [upM_mid _ _ _ _ (by decide)]; done) | (rw [upM_mid _ _ _ _ (by decide), upM_upM]; done) | (rw [upM_mid _ _ _ _ (by decide), upM_mid _ _ _ _ (by decide)]; done)) ?_
    refine u_bipush (v := 59) (pc := 170) F dX11_takeClause_170 (by decide) ?_
    refine u_icmp_eq (pc := 172) F 185 dX11_takeClause_172 (by decide) (fun c19 => ?_) (fun c19 => ?_)
    · rw [if_pos c19] at h
      refine u_lv (lv' := [(0, .ref (adr G (11, 0, 0))), (4, .int s0)]) [1, 0] rfl ?_
      exact wX11_takeClause_185 Y G hL σ F hY r mo' hR q18.2 s0 h
    · rw [if_neg c19] at h
      refine u_aload_n (pc := 175) F dX11_takeClause_175 1 rfl rfl ?_
      refine u_iconst (v := 1) (pc := 176) F dX11_takeClause_176 (by decide) ?_
      refine u_aload_n (pc := 177) F dX11_takeClause_177 1 rfl rfl ?_
      refine u_get1 (pc := 178) F dX11_takeClause_178 (hL 11 0 0 (by decide) rfl) ck_11 fl_11_116 rfl (by decide) ?_
      obtain ⟨q20, hq20, h⟩ := d_bd_some h
      refine u_calli (pc := 181) F (As := [.int (1 : Int32), .int (q18.2 0 18)]) (c_X11_fails G hL (1 : Int32) (q18.2 0 18) (upM σ 11 0 q18.2) q18.2 (upM_same _ _ _ _) q20.1 q20.2 hq20) yv_X11_fails ml_11_127 (hL 11 0 0 (by decide) rfl) rfl (by decide) rfl rfl (Nat.le_of_ble_eq_true rfl) dX11_takeClause_181 ?_
      refine u_mem (σ2 := (upM σ 11 0 q20.2)) (by first | (rw [upM_upM]; done) | (rw [upM_mid _ _ _ _ (by decide)]; done) | (rw [upM_mid _ _ _ _ (by decide), upM_upM]; done) | (rw [upM_mid _ _ _ _ (by decide), upM_mid _ _ _ _ (by decide)]; done)) ?_
      have h1 := Option.some.inj h
      obtain ⟨hj0, hr0⟩ := Prod.mk.inj h1
      subst hj0
      subst hr0
      exact hR _ _ rfl dX11_takeClause_184
set_option maxHeartbeats 4000000 in
set_option maxRecDepth 100000 in
theorem wX11_takeClause_107 (Y : Dy) (G : G0) (hL : Im G) (σ : Mem) (F : Fx Y G cX11_takeClause RX11 5) (hY : Y.2.2.2.2.2.2.2.2.2.2.2.1 = 5) (r : Int32) (mo' : Grp) (hR : ∀ (pc : Nat) (lv : List (Nat × Value)), narrow .int (.int r) = .int r → decode cX11_takeClause pc = .ok (.ireturn, 1) → U Y G (upM σ 11 0 (mo')) pc lv [.int r]) :
    ∀ (mo : Grp) (x2 : Int32) (s0 : Int32), fX11_takeClause_107 mo x2 s0 = some (r, mo') → U Y G (upM σ 11 0 mo) 107 [(0, .ref (adr G (11, 0, 0))), (2, .int x2)] [.int s0] := by
  intro mo x2 s0 h
  unfold fX11_takeClause_107 at h
  refine u_istore_n (lv' := [(3, .int s0), (0, .ref (adr G (11, 0, 0))), (2, .int x2)]) (pc := 107) F dX11_takeClause_107 rfl hY (by decide) rfl ?_
  refine u_iload_n (pc := 108) F dX11_takeClause_108 0 rfl rfl ?_
  refine u_if_eq (pc := 109) F 122 dX11_takeClause_109 (by decide) (fun c11 => ?_) (fun c11 => ?_)
  · rw [if_pos c11] at h
    refine u_aload_n (pc := 122) F dX11_takeClause_122 1 rfl rfl ?_
    refine u_dup (pc := 123) F dX11_takeClause_123 rfl ?_
    refine u_get1 (pc := 124) F dX11_takeClause_124 (hL 11 0 0 (by decide) rfl) ck_11 fl_11_116 rfl (by decide) ?_
    refine u_iconst (v := 1) (pc := 127) F dX11_takeClause_127 (by decide) ?_
    refine u_iadd (pc := 128) F dX11_takeClause_128 ?_
    refine u_put1 (pc := 129) F dX11_takeClause_129 (hL 11 0 0 (by decide) rfl) ck_11 fl_11_116 rfl (by decide) rfl (ty0 := .int) (by decide +kernel) rfl rfl ?_
    obtain ⟨g12, hg12, h⟩ := d_lt_some h
    refine u_mem (σ2 := (upM σ 11 0 g12)) (by rw [hg12]) ?_
    refine u_iload_n (pc := 132) F dX11_takeClause_132 2 rfl rfl ?_
    refine u_if_ne (pc := 133) F 143 dX11_takeClause_133 (by decide) (fun c13 => ?_) (fun c13 => ?_)
    · rw [if_neg c13] at h
      refine u_iload_n (pc := 143) F dX11_takeClause_143 2 rfl rfl ?_
      refine u_iconst (v := 1) (pc := 144) F dX11_takeClause_144 (by decide) ?_
      refine u_icmp_ne (pc := 145) F 155 dX11_takeClause_145 (by decide) (fun c14 => ?_) (fun c14 => ?_)
      · rw [if_neg c14] at h
        refine u_aload_n (pc := 155) F dX11_takeClause_155 1 rfl rfl ?_
        obtain ⟨q15, hq15, h⟩ := d_bd_some h
        refine u_calli (pc := 156) F (As := []) (c_X11_takeFob G hL (upM σ 11 0 g12) g12 (upM_same _ _ _ _) q15.1 q15.2 hq15) yv_X11_takeFob ml_11_157 (hL 11 0 0 (by decide) rfl) rfl (by decide) rfl rfl (Nat.le_of_ble_eq_true rfl) dX11_takeClause_156 ?_
        refine u_mem (σ2 := (upM σ 11 0 q15.2)) (by first | (rw [upM_upM]; done) | (rw [upM_mid _ _ _ _ (by decide)]; done) | (rw [upM_mid _ _ _ _ (by decide), upM_upM]; done) | (rw [upM_mid _ _ _ _ (by decide), upM_mid _ _ _ _ (by decide)]; done)) ?_
        refine u_lv (lv' := [(0, .ref (adr G (11, 0, 0)))]) [1] rfl ?_
        exact wX11_takeClause_159 Y G hL σ F hY r mo' hR q15.2 q15.1 h
      · rw [if_pos c14] at h
        refine u_aload_n (pc := 148) F dX11_takeClause_148 1 rfl rfl ?_
        obtain ⟨q21, hq21, h⟩ := d_bd_some h
        refine u_calli (pc := 149) F (As := []) (c_X11_takeGate G hL (upM σ 11 0 g12) g12 (upM_same _ _ _ _) q21.1 q21.2 hq21) yv_X11_takeGate ml_11_154 (hL 11 0 0 (by decide) rfl) rfl (by decide) rfl rfl (Nat.le_of_ble_eq_true rfl) dX11_takeClause_149 ?_
        refine u_mem (σ2 := (upM σ 11 0 q21.2)) (by first | (rw [upM_upM]; done) | (rw [upM_mid _ _ _ _ (by decide)]; done) | (rw [upM_mid _ _ _ _ (by decide), upM_upM]; done) | (rw [upM_mid _ _ _ _ (by decide), upM_mid _ _ _ _ (by decide)]; done)) ?_
        refine u_goto (pc := 152) F 159 dX11_takeClause_152 (by decide) ?_
        refine u_lv (lv' := [(0, .ref (adr G (11, 0, 0)))]) [1] rfl ?_
        exact wX11_takeClause_159 Y G hL σ F hY r mo' hR q21.2 q21.1 h
    · rw [if_pos c13] at h
      refine u_aload_n (pc := 136) F dX11_takeClause_136 1 rfl rfl ?_
      obtain ⟨q22, hq22, h⟩ := d_bd_some h
      refine u_calli (pc := 137) F (As := []) (c_X11_takeEar G hL (upM σ 11 0 g12) g12 (upM_same _ _ _ _) q22.1 q22.2 hq22) yv_X11_takeEar ml_11_151 (hL 11 0 0 (by decide) rfl) rfl (by decide) rfl rfl (Nat.le_of_ble_eq_true rfl) dX11_takeClause_137 ?_
      refine u_mem (σ2 := (upM σ 11 0 q22.2)) (by first | (rw [upM_upM]; done) | (rw [upM_mid _ _ _ _ (by decide)]; done) | (rw [upM_mid _ _ _ _ (by decide), upM_upM]; done) | (rw [upM_mid _ _ _ _ (by decide), upM_mid _ _ _ _ (by decide)]; done)) ?_
      refine u_goto (pc := 140) F 159 dX11_takeClause_140 (by decide) ?_
      refine u_lv (lv' := [(0, .ref (adr G (11, 0, 0)))]) [1] rfl ?_
      exact wX11_takeClause_159 Y G hL σ F hY r mo' hR q22.2 q22.1 h
  · rw [if_neg c11] at h
    refine u_aload_n (pc := 112) F dX11_takeClause_112 1 rfl rfl ?_
    refine u_iconst (v := 3) (pc := 113) F dX11_takeClause_113 (by decide) ?_
    refine u_aload_n (pc := 114) F dX11_takeClause_114 1 rfl rfl ?_
    refine u_get1 (pc := 115) F dX11_takeClause_115 (hL 11 0 0 (by decide) rfl) ck_11 fl_11_116 rfl (by decide) ?_
    obtain ⟨q23, hq23, h⟩ := d_bd_some h
    refine u_calli (pc := 118) F (As := [.int (3 : Int32), .int (mo 0 18)]) (c_X11_fails G hL (3 : Int32) (mo 0 18) (upM σ 11 0 mo) mo (upM_same _ _ _ _) q23.1 q23.2 hq23) yv_X11_fails ml_11_127 (hL 11 0 0 (by decide) rfl) rfl (by decide) rfl rfl (Nat.le_of_ble_eq_true rfl) dX11_takeClause_118 ?_
    refine u_mem (σ2 := (upM σ 11 0 q23.2)) (by first | (rw [upM_upM]; done) | (rw [upM_mid _ _ _ _ (by decide)]; done) | (rw [upM_mid _ _ _ _ (by decide), upM_upM]; done) | (rw [upM_mid _ _ _ _ (by decide), upM_mid _ _ _ _ (by decide)]; done)) ?_
    have h1 := Option.some.inj h
    obtain ⟨hj0, hr0⟩ := Prod.mk.inj h1
    subst hj0
    subst hr0
    exact hR _ _ rfl dX11_takeClause_121
set_option maxHeartbeats 4000000 in
set_option maxRecDepth 100000 in
theorem wX11_takeClause_62 (Y : Dy) (G : G0) (hL : Im G) (σ : Mem) (F : Fx Y G cX11_takeClause RX11 5) (hY : Y.2.2.2.2.2.2.2.2.2.2.2.1 = 5) (r : Int32) (mo' : Grp) (hR : ∀ (pc : Nat) (lv : List (Nat × Value)), narrow .int (.int r) = .int r → decode cX11_takeClause pc = .ok (.ireturn, 1) → U Y G (upM σ 11 0 (mo')) pc lv [.int r]) :
    ∀ (mo : Grp) (x2 : Int32), fX11_takeClause_62 mo x2 = some (r, mo') → U Y G (upM σ 11 0 mo) 62 [(0, .ref (adr G (11, 0, 0))), (2, .int x2)] [] := by
  intro mo x2 h
  unfold fX11_takeClause_62 at h
  refine u_iload_n (pc := 62) F dX11_takeClause_62 1 rfl rfl ?_
  refine u_if_ne (pc := 63) F 73 dX11_takeClause_63 (by decide) (fun c8 => ?_) (fun c8 => ?_)
  · rw [if_neg c8] at h
    refine u_iload_n (pc := 73) F dX11_takeClause_73 1 rfl rfl ?_
    refine u_iconst (v := 1) (pc := 74) F dX11_takeClause_74 (by decide) ?_
    refine u_icmp_ne (pc := 75) F 94 dX11_takeClause_75 (by decide) (fun c9 => ?_) (fun c9 => ?_)
    · rw [if_neg c9] at h
      refine u_aload_n (pc := 94) F dX11_takeClause_94 0 rfl rfl ?_
      refine u_get1 (pc := 95) F dX11_takeClause_95 (hL 11 0 0 (by decide) rfl) ck_11 fl_11_148 rfl (by decide) ?_
      refine u_iconst (v := 5) (pc := 98) F dX11_takeClause_98 (by decide) ?_
      refine u_icmp_ne (pc := 99) F 106 dX11_takeClause_99 (by decide) (fun c10 => ?_) (fun c10 => ?_)
      · rw [if_neg c10] at h
        refine u_iconst (v := 0) (pc := 106) F dX11_takeClause_106 (by decide) ?_
        exact wX11_takeClause_107 Y G hL σ F hY r mo' hR mo x2 (0 : Int32) h
      · rw [if_pos c10] at h
        refine u_iconst (v := 1) (pc := 102) F dX11_takeClause_102 (by decide) ?_
        refine u_goto (pc := 103) F 107 dX11_takeClause_103 (by decide) ?_
        exact wX11_takeClause_107 Y G hL σ F hY r mo' hR mo x2 (1 : Int32) h
    · rw [if_pos c9] at h
      refine u_aload_n (pc := 78) F dX11_takeClause_78 0 rfl rfl ?_
      refine u_get1 (pc := 79) F dX11_takeClause_79 (hL 11 0 0 (by decide) rfl) ck_11 fl_11_145 rfl (by decide) ?_
      refine u_iconst (v := 4) (pc := 82) F dX11_takeClause_82 (by decide) ?_
      refine u_icmp_ne (pc := 83) F 90 dX11_takeClause_83 (by decide) (fun c24 => ?_) (fun c24 => ?_)
      · rw [if_neg c24] at h
        refine u_iconst (v := 0) (pc := 90) F dX11_takeClause_90 (by decide) ?_
        refine u_goto (pc := 91) F 107 dX11_takeClause_91 (by decide) ?_
        exact wX11_takeClause_107 Y G hL σ F hY r mo' hR mo x2 (0 : Int32) h
      · rw [if_pos c24] at h
        refine u_iconst (v := 1) (pc := 86) F dX11_takeClause_86 (by decide) ?_
        refine u_goto (pc := 87) F 107 dX11_takeClause_87 (by decide) ?_
        exact wX11_takeClause_107 Y G hL σ F hY r mo' hR mo x2 (1 : Int32) h
  · rw [if_pos c8] at h
    refine u_aload_n (pc := 66) F dX11_takeClause_66 0 rfl rfl ?_
    refine u_get1 (pc := 67) F dX11_takeClause_67 (hL 11 0 0 (by decide) rfl) ck_11 fl_11_137 rfl (by decide) ?_
    refine u_goto (pc := 70) F 107 dX11_takeClause_70 (by decide) ?_
    exact wX11_takeClause_107 Y G hL σ F hY r mo' hR mo x2 (mo 0 20) h
set_option maxHeartbeats 4000000 in
set_option maxRecDepth 100000 in
theorem wX11_takeClause_36 (Y : Dy) (G : G0) (hL : Im G) (σ : Mem) (F : Fx Y G cX11_takeClause RX11 5) (hY : Y.2.2.2.2.2.2.2.2.2.2.2.1 = 5) (r : Int32) (mo' : Grp) (hR : ∀ (pc : Nat) (lv : List (Nat × Value)), narrow .int (.int r) = .int r → decode cX11_takeClause pc = .ok (.ireturn, 1) → U Y G (upM σ 11 0 (mo')) pc lv [.int r]) :
    ∀ (mo : Grp) (s0 : Int32), fX11_takeClause_36 mo s0 = some (r, mo') → U Y G (upM σ 11 0 mo) 36 [(0, .ref (adr G (11, 0, 0)))] [.int s0] := by
  intro mo s0 h
  unfold fX11_takeClause_36 at h
  refine u_istore_n (lv' := [(2, .int s0), (0, .ref (adr G (11, 0, 0)))]) (pc := 36) F dX11_takeClause_36 rfl hY (by decide) rfl ?_
  refine u_iload_n (pc := 37) F dX11_takeClause_37 0 rfl rfl ?_
  refine u_if_lt (pc := 38) F 52 dX11_takeClause_38 (by decide) (fun c5 => ?_) (fun c5 => ?_)
  · rw [if_pos c5] at h
    refine u_lv (lv' := [(0, .ref (adr G (11, 0, 0)))]) [1] rfl ?_
    exact wX11_takeClause_52 Y G hL σ F hY r mo' hR mo h
  · rw [if_neg c5] at h
    refine u_iload_n (pc := 41) F dX11_takeClause_41 0 rfl rfl ?_
    refine u_if_le (pc := 42) F 62 dX11_takeClause_42 (by decide) (fun c7 => ?_) (fun c7 => ?_)
    · rw [if_pos c7] at h
      refine u_lv (lv' := [(0, .ref (adr G (11, 0, 0))), (2, .int s0)]) [1, 0] rfl ?_
      exact wX11_takeClause_62 Y G hL σ F hY r mo' hR mo s0 h
    · rw [if_neg c7] at h
      refine u_aload_n (pc := 45) F dX11_takeClause_45 1 rfl rfl ?_
      refine u_get1 (pc := 46) F dX11_takeClause_46 (hL 11 0 0 (by decide) rfl) ck_11 fl_11_137 rfl (by decide) ?_
      refine u_if_ne (pc := 49) F 62 dX11_takeClause_49 (by decide) (fun c25 => ?_) (fun c25 => ?_)
      · rw [if_neg c25] at h
        refine u_lv (lv' := [(0, .ref (adr G (11, 0, 0))), (2, .int s0)]) [1, 0] rfl ?_
        exact wX11_takeClause_62 Y G hL σ F hY r mo' hR mo s0 h
      · rw [if_pos c25] at h
        refine u_lv (lv' := [(0, .ref (adr G (11, 0, 0)))]) [1] rfl ?_
        exact wX11_takeClause_52 Y G hL σ F hY r mo' hR mo h
set_option maxHeartbeats 4000000 in
set_option maxRecDepth 100000 in
theorem c_X11_takeClause (G : G0) (hL : Im G) (σ : Mem) (mo : Grp) (e_mo : σ 11 0 = mo) (r : Int32) (mo' : Grp) (h : fX11_takeClause mo = some (r, mo')) :
    CI G yX11_takeClause cX11_takeClause 5 .int 5 [.ref (adr G (11, 0, 0))] σ r (upM σ 11 0 (mo')) := by
  refine CI.of (by decide +kernel) (Nat.le_of_ble_eq_true rfl) (fun Y hY F hR => ?_)
  unfold fX11_takeClause at h
  have F : Fx Y G cX11_takeClause RX11 5 := F
  refine u_mem (σ2 := (upM σ 11 0 mo)) (by rw [← e_mo]; simp only [upM_self]) ?_
  refine u_lv (lv' := [(0, .ref (adr G (11, 0, 0)))]) [0] rfl ?_
  refine u_aload_n (pc := 0) F dX11_takeClause_0 0 rfl rfl ?_
  obtain ⟨q1, hq1, h⟩ := d_bd_some h
  refine u_calli (pc := 1) F (As := []) (c_X11_here G hL (upM σ 11 0 mo) mo (upM_same _ _ _ _) q1.1 q1.2 hq1) yv_X11_here ml_11_119 (hL 11 0 0 (by decide) rfl) rfl (by decide) rfl rfl (Nat.le_of_ble_eq_true rfl) dX11_takeClause_1 ?_
  refine u_mem (σ2 := (upM σ 11 0 q1.2)) (by first | (rw [upM_upM]; done) | (rw [upM_mid _ _ _ _ (by decide)]; done) | (rw [upM_mid _ _ _ _ (by decide), upM_upM]; done) | (rw [upM_mid _ _ _ _ (by decide), upM_mid _ _ _ _ (by decide)]; done)) ?_
  refine u_istore_n (lv' := [(1, .int q1.1), (0, .ref (adr G (11, 0, 0)))]) (pc := 4) F dX11_takeClause_4 rfl hY (by decide) rfl ?_
  refine u_iload_n (pc := 5) F dX11_takeClause_5 0 rfl rfl ?_
  refine u_bipush (v := 101) (pc := 6) F dX11_takeClause_6 (by decide) ?_
  refine u_icmp_ne (pc := 8) F 15 dX11_takeClause_8 (by decide) (fun c2 => ?_) (fun c2 => ?_)
  · rw [if_neg c2] at h
    refine u_iload_n (pc := 15) F dX11_takeClause_15 0 rfl rfl ?_
    refine u_bipush (v := 103) (pc := 16) F dX11_takeClause_16 (by decide) ?_
    refine u_icmp_ne (pc := 18) F 25 dX11_takeClause_18 (by decide) (fun c3 => ?_) (fun c3 => ?_)
    · rw [if_neg c3] at h
      refine u_iload_n (pc := 25) F dX11_takeClause_25 0 rfl rfl ?_
      refine u_bipush (v := 102) (pc := 26) F dX11_takeClause_26 (by decide) ?_
      refine u_icmp_ne (pc := 28) F 35 dX11_takeClause_28 (by decide) (fun c4 => ?_) (fun c4 => ?_)
      · rw [if_neg c4] at h
        refine u_iconst (v := -1) (pc := 35) F dX11_takeClause_35 (by decide) ?_
        refine u_lv (lv' := [(0, .ref (adr G (11, 0, 0)))]) [1] rfl ?_
        exact wX11_takeClause_36 Y G hL σ F hY r mo' hR q1.2 (-1 : Int32) h
      · rw [if_pos c4] at h
        refine u_iconst (v := 2) (pc := 31) F dX11_takeClause_31 (by decide) ?_
        refine u_goto (pc := 32) F 36 dX11_takeClause_32 (by decide) ?_
        refine u_lv (lv' := [(0, .ref (adr G (11, 0, 0)))]) [1] rfl ?_
        exact wX11_takeClause_36 Y G hL σ F hY r mo' hR q1.2 (2 : Int32) h
    · rw [if_pos c3] at h
      refine u_iconst (v := 1) (pc := 21) F dX11_takeClause_21 (by decide) ?_
      refine u_goto (pc := 22) F 36 dX11_takeClause_22 (by decide) ?_
      refine u_lv (lv' := [(0, .ref (adr G (11, 0, 0)))]) [1] rfl ?_
      exact wX11_takeClause_36 Y G hL σ F hY r mo' hR q1.2 (1 : Int32) h
  · rw [if_pos c2] at h
    refine u_iconst (v := 0) (pc := 11) F dX11_takeClause_11 (by decide) ?_
    refine u_goto (pc := 12) F 36 dX11_takeClause_12 (by decide) ?_
    refine u_lv (lv' := [(0, .ref (adr G (11, 0, 0)))]) [1] rfl ?_
    exact wX11_takeClause_36 Y G hL σ F hY r mo' hR q1.2 (0 : Int32) h
/- RollingCodesModel.copyRow -/
def fX11_copyRow_2 (i0 n0 : Nat) (i1 n1 : Nat) : Nat → Grp → Int32 → Int32 → Option (Grp)
  | 0, _, _, _ => none
  | fu + 1, mo, x2, x3 =>
    if x3 < x2 then (d_ab x3 n0 <| d_ab x3 n1 <| d_lt (wr mo (i1 + 1) x3.toNatClampNeg (mo (i0 + 1) x3.toNatClampNeg)) fun g4 => d_lt (x3 + (1 : Int32)) fun v5 => fX11_copyRow_2 i0 n0 i1 n1 fu g4 x2 v5) else (some mo)
def fX11_copyRow (mo : Grp) (i0 n0 : Nat) (i1 n1 : Nat) (x2 : Int32) : Option (Grp) :=
    fX11_copyRow_2 i0 n0 i1 n1 1000 mo x2 (0 : Int32)
set_option maxHeartbeats 4000000 in
set_option maxRecDepth 100000 in
theorem wX11_copyRow_2 (Y : Dy) (G : G0) (hL : Im G) (i0 n0 : Nat) (ha0 : fk 11 i0 = (1, n0)) (i1 n1 : Nat) (ha1 : fk 11 i1 = (1, n1)) (σ : Mem) (F : Fx Y G cX11_copyRow RX11 1) (hY : Y.2.2.2.2.2.2.2.2.2.2.2.1 = 4) (mo' : Grp) (hR : ∀ (pc : Nat) (lv : List (Nat × Value)), decode cX11_copyRow pc = .ok (.return_, 1) → U Y G (upM σ 11 0 (mo')) pc lv []) :
    ∀ (fu : Nat) (mo : Grp) (x2 : Int32) (x3 : Int32), fX11_copyRow_2 i0 n0 i1 n1 fu mo x2 x3 = some mo' → U Y G (upM σ 11 0 mo) 2 [(0, .ref (adr G (11, 0, i0 + 1))), (1, .ref (adr G (11, 0, i1 + 1))), (2, .int x2), (3, .int x3)] [] := by
  intro fu
  induction fu with
  | zero =>
    intro mo x2 x3 h
    rw [fX11_copyRow_2] at h
    cases h
  | succ fu ih =>
    intro mo x2 x3 h
    rw [fX11_copyRow_2] at h
    refine u_iload_n (pc := 2) F dX11_copyRow_2 3 rfl rfl ?_
    refine u_iload_n (pc := 3) F dX11_copyRow_3 2 rfl rfl ?_
    refine u_icmp_ge (pc := 4) F 19 dX11_copyRow_4 (by decide) (fun c1 => ?_) (fun c1 => ?_)
    · rw [if_neg c1] at h
      have h1 := Option.some.inj h
      subst h1
      exact hR _ _ dX11_copyRow_19
    · rw [if_pos c1] at h
      refine u_aload_n (pc := 7) F dX11_copyRow_7 1 rfl rfl ?_
      refine u_iload_n (pc := 8) F dX11_copyRow_8 3 rfl rfl ?_
      refine u_aload_n (pc := 9) F dX11_copyRow_9 0 rfl rfl ?_
      refine u_iload_n (pc := 10) F dX11_copyRow_10 3 rfl rfl ?_
      obtain ⟨b2, h⟩ := d_ab_some h
      refine u_aldI1 (pc := 11) F dX11_copyRow_11 (hL 11 0 (i0 + 1) (by decide) (okj_of ha0 (by decide))) ha0 b2 ?_
      obtain ⟨b3, h⟩ := d_ab_some h
      refine u_astI1 (pc := 12) F dX11_copyRow_12 (hL 11 0 (i1 + 1) (by decide) (okj_of ha1 (by decide))) ha1 b3 ?_
      obtain ⟨g4, hg4, h⟩ := d_lt_some h
      refine u_mem (σ2 := (upM σ 11 0 g4)) (by rw [hg4]) ?_
      obtain ⟨v5, hv5, h⟩ := d_lt_some h
      refine u_iinc (lv' := [(3, .int v5), (0, .ref (adr G (11, 0, i0 + 1))), (1, .ref (adr G (11, 0, i1 + 1))), (2, .int x2)]) (pc := 13) F dX11_copyRow_13 3 rfl hv5.symm hY (by decide) rfl ?_
      refine u_goto (pc := 16) F 2 dX11_copyRow_16 (by decide) ?_
      refine u_lv (lv' := [(0, .ref (adr G (11, 0, i0 + 1))), (1, .ref (adr G (11, 0, i1 + 1))), (2, .int x2), (3, .int v5)]) [1, 2, 3, 0] rfl ?_
      exact ih g4 x2 v5 h
set_option maxHeartbeats 4000000 in
set_option maxRecDepth 100000 in
theorem c_X11_copyRow (G : G0) (hL : Im G) (i0 n0 : Nat) (ha0 : fk 11 i0 = (1, n0)) (i1 n1 : Nat) (ha1 : fk 11 i1 = (1, n1)) (x2 : Int32) (σ : Mem) (mo : Grp) (e_mo : σ 11 0 = mo) (mo' : Grp) (h : fX11_copyRow mo i0 n0 i1 n1 x2 = some mo') :
    CV G yX11_copyRow cX11_copyRow 4 1 [.ref (adr G (11, 0, i0 + 1)), .ref (adr G (11, 0, i1 + 1)), .int x2] σ (upM σ 11 0 (mo')) := by
  refine CV.of (by decide +kernel) (Nat.le_of_ble_eq_true rfl) (fun Y hY F hR => ?_)
  unfold fX11_copyRow at h
  have F : Fx Y G cX11_copyRow RX11 1 := F
  refine u_mem (σ2 := (upM σ 11 0 mo)) (by rw [← e_mo]; simp only [upM_self]) ?_
  refine u_lv (lv' := [(0, .ref (adr G (11, 0, i0 + 1))), (1, .ref (adr G (11, 0, i1 + 1))), (2, .int x2)]) [0, 1, 2] rfl ?_
  refine u_iconst (v := 0) (pc := 0) F dX11_copyRow_0 (by decide) ?_
  refine u_istore_n (lv' := [(3, .int (0 : Int32)), (0, .ref (adr G (11, 0, i0 + 1))), (1, .ref (adr G (11, 0, i1 + 1))), (2, .int x2)]) (pc := 1) F dX11_copyRow_1 rfl hY (by decide) rfl ?_
  refine u_lv (lv' := [(0, .ref (adr G (11, 0, i0 + 1))), (1, .ref (adr G (11, 0, i1 + 1))), (2, .int x2), (3, .int (0 : Int32))]) [1, 2, 3, 0] rfl ?_
  exact wX11_copyRow_2 Y G hL i0 n0 ha0 i1 n1 ha1 σ F hY mo' hR 1000 mo x2 (0 : Int32) h
/- RollingCodesModel.beginAll -/
def fX11_beginAll_114  : Nat → Grp → Int32 → Int32 → Option (Int32 × Grp)
  | 0, _, _, _ => none
  | fu + 1, mo, x1, x2 =>
    if x2 < (mo 0 7) then (d_ab x2 5 <| d_ab (((38 : Int32) + ((5 : Int32) * x1)) + x2) 59 <| d_lt (wr mo 14 (((38 : Int32) + ((5 : Int32) * x1)) + x2).toNatClampNeg (mo 13 x2.toNatClampNeg)) fun g13 => d_lt (x2 + (1 : Int32)) fun v14 => fX11_beginAll_114 fu g13 x1 v14) else (some (x1, mo))
def fX11_beginAll_87  : Nat → Grp → Int32 → Option (Grp)
  | 0, _, _ => none
  | fu + 1, mo, x1 =>
    if x1 < (4 : Int32) then (d_ab ((30 : Int32) + x1) 59 <| d_lt (wr mo 14 ((30 : Int32) + x1).toNatClampNeg (-1 : Int32)) fun g7 => d_ab ((34 : Int32) + x1) 59 <| d_lt (wr g7 14 ((34 : Int32) + x1).toNatClampNeg (-1 : Int32)) fun g9 => d_bd (fX11_beginAll_114 1000 g9 x1 (0 : Int32)) fun q15 => d_lt (q15.1 + (1 : Int32)) fun v16 => fX11_beginAll_87 fu q15.2 v16) else (some mo)
def fX11_beginAll_23  : Nat → Grp → Int32 → Option (Grp)
  | 0, _, _ => none
  | fu + 1, mo, x1 =>
    if x1 < (mo 0 7) then (d_ab x1 5 <| d_ab x1 59 <| d_lt (wr mo 14 x1.toNatClampNeg (mo 10 x1.toNatClampNeg)) fun g19 => d_ab x1 5 <| d_ab ((5 : Int32) + x1) 59 <| d_lt (wr g19 14 ((5 : Int32) + x1).toNatClampNeg (g19 13 x1.toNatClampNeg)) fun g22 => d_ab ((10 : Int32) + x1) 59 <| d_lt (wr g22 14 ((10 : Int32) + x1).toNatClampNeg (60 : Int32)) fun g24 => d_lt (x1 + (1 : Int32)) fun v25 => fX11_beginAll_23 fu g24 v25) else (d_ab (15 : Int32) 59 <| d_lt (wr mo 14 (15 : Int32).toNatClampNeg (mo 0 1)) fun g4 => fX11_beginAll_87 1000 g4 (0 : Int32))
def fX11_beginAll_2  : Nat → Grp → Int32 → Option (Grp)
  | 0, _, _ => none
  | fu + 1, mo, x1 =>
    if x1 < (59 : Int32) then (d_ab x1 59 <| d_lt (wr mo 14 x1.toNatClampNeg (0 : Int32)) fun g27 => d_lt (x1 + (1 : Int32)) fun v28 => fX11_beginAll_2 fu g27 v28) else (fX11_beginAll_23 1000 mo (0 : Int32))
def fX11_beginAll (mo : Grp) : Option (Grp) :=
    fX11_beginAll_2 1000 mo (0 : Int32)
set_option maxHeartbeats 4000000 in
set_option maxRecDepth 100000 in
theorem wX11_beginAll_114 (Y : Dy) (G : G0) (hL : Im G) (σ : Mem) (F : Fx Y G cX11_beginAll RX11 1) (hY : Y.2.2.2.2.2.2.2.2.2.2.2.1 = 3) :
    ∀ (fu : Nat) (mo : Grp) (x1 : Int32) (x2 : Int32) (z1 : Int32) (z_mo : Grp), fX11_beginAll_114 fu mo x1 x2 = some (z1, z_mo) → U Y G (upM σ 11 0 z_mo) 147 [(0, .ref (adr G (11, 0, 0))), (1, .int z1)] [] → U Y G (upM σ 11 0 mo) 114 [(0, .ref (adr G (11, 0, 0))), (1, .int x1), (2, .int x2)] [] := by
  intro fu
  induction fu with
  | zero =>
    intro mo x1 x2 z1 z_mo h hK
    rw [fX11_beginAll_114] at h
    cases h
  | succ fu ih =>
    intro mo x1 x2 z1 z_mo h hK
    rw [fX11_beginAll_114] at h
    refine u_iload_n (pc := 114) F dX11_beginAll_114 2 rfl rfl ?_
    refine u_aload_n (pc := 115) F dX11_beginAll_115 0 rfl rfl ?_
    refine u_get1 (pc := 116) F dX11_beginAll_116 (hL 11 0 0 (by decide) rfl) ck_11 fl_11_102 rfl (by decide) ?_
    refine u_icmp_ge (pc := 119) F 147 dX11_beginAll_119 (by decide) (fun c10 => ?_) (fun c10 => ?_)
    · rw [if_neg c10] at h
      have h1 := Option.some.inj h
      obtain ⟨hj0, hr0⟩ := Prod.mk.inj h1
      subst hj0
      subst hr0
      refine u_lv [0, 1] rfl ?_
      exact hK
    · rw [if_pos c10] at h
      refine u_aload_n (pc := 122) F dX11_beginAll_122 0 rfl rfl ?_
      refine u_getA (pc := 123) F dX11_beginAll_123 (hL 11 0 0 (by decide) rfl) ck_11 fl_11_34 rfl (by decide) (by decide) ?_
      refine u_bipush (v := 38) (pc := 126) F dX11_beginAll_126 (by decide) ?_
      refine u_iconst (v := 5) (pc := 128) F dX11_beginAll_128 (by decide) ?_
      refine u_iload_n (pc := 129) F dX11_beginAll_129 1 rfl rfl ?_
      refine u_imul (pc := 130) F dX11_beginAll_130 ?_
      refine u_iadd (pc := 131) F dX11_beginAll_131 ?_
      refine u_iload_n (pc := 132) F dX11_beginAll_132 2 rfl rfl ?_
      refine u_iadd (pc := 133) F dX11_beginAll_133 ?_
      refine u_aload_n (pc := 134) F dX11_beginAll_134 0 rfl rfl ?_
      refine u_getA (pc := 135) F dX11_beginAll_135 (hL 11 0 0 (by decide) rfl) ck_11 fl_11_31 rfl (by decide) (by decide) ?_
      refine u_iload_n (pc := 138) F dX11_beginAll_138 2 rfl rfl ?_
      obtain ⟨b11, h⟩ := d_ab_some h
      refine u_aldI1 (pc := 139) F dX11_beginAll_139 (hL 11 0 13 (by decide) rfl) rfl b11 ?_
      obtain ⟨b12, h⟩ := d_ab_some h
      refine u_astI1 (pc := 140) F dX11_beginAll_140 (hL 11 0 14 (by decide) rfl) rfl b12 ?_
      obtain ⟨g13, hg13, h⟩ := d_lt_some h
      refine u_mem (σ2 := (upM σ 11 0 g13)) (by rw [hg13]) ?_
      obtain ⟨v14, hv14, h⟩ := d_lt_some h
      refine u_iinc (lv' := [(2, .int v14), (0, .ref (adr G (11, 0, 0))), (1, .int x1)]) (pc := 141) F dX11_beginAll_141 2 rfl hv14.symm hY (by decide) rfl ?_
      refine u_goto (pc := 144) F 114 dX11_beginAll_144 (by decide) ?_
      refine u_lv (lv' := [(0, .ref (adr G (11, 0, 0))), (1, .int x1), (2, .int v14)]) [1, 2, 0] rfl ?_
      exact ih g13 x1 v14 z1 z_mo h hK
set_option maxHeartbeats 4000000 in
set_option maxRecDepth 100000 in
theorem wX11_beginAll_87 (Y : Dy) (G : G0) (hL : Im G) (σ : Mem) (F : Fx Y G cX11_beginAll RX11 1) (hY : Y.2.2.2.2.2.2.2.2.2.2.2.1 = 3) (mo' : Grp) (hR : ∀ (pc : Nat) (lv : List (Nat × Value)), decode cX11_beginAll pc = .ok (.return_, 1) → U Y G (upM σ 11 0 (mo')) pc lv []) :
    ∀ (fu : Nat) (mo : Grp) (x1 : Int32), fX11_beginAll_87 fu mo x1 = some mo' → U Y G (upM σ 11 0 mo) 87 [(0, .ref (adr G (11, 0, 0))), (1, .int x1)] [] := by
  intro fu
  induction fu with
  | zero =>
    intro mo x1 h
    rw [fX11_beginAll_87] at h
    cases h
  | succ fu ih =>
    intro mo x1 h
    rw [fX11_beginAll_87] at h
    refine u_iload_n (pc := 87) F dX11_beginAll_87 1 rfl rfl ?_
    refine u_iconst (v := 4) (pc := 88) F dX11_beginAll_88 (by decide) ?_
    refine u_icmp_ge (pc := 89) F 153 dX11_beginAll_89 (by decide) (fun c5 => ?_) (fun c5 => ?_)
    · rw [if_neg c5] at h
      have h1 := Option.some.inj h
      subst h1
      exact hR _ _ dX11_beginAll_153
    · rw [if_pos c5] at h
      refine u_aload_n (pc := 92) F dX11_beginAll_92 0 rfl rfl ?_
      refine u_getA (pc := 93) F dX11_beginAll_93 (hL 11 0 0 (by decide) rfl) ck_11 fl_11_34 rfl (by decide) (by decide) ?_
      refine u_bipush (v := 30) (pc := 96) F dX11_beginAll_96 (by decide) ?_
      refine u_iload_n (pc := 98) F dX11_beginAll_98 1 rfl rfl ?_
      refine u_iadd (pc := 99) F dX11_beginAll_99 ?_
      refine u_iconst (v := -1) (pc := 100) F dX11_beginAll_100 (by decide) ?_
      obtain ⟨b6, h⟩ := d_ab_some h
      refine u_astI1 (pc := 101) F dX11_beginAll_101 (hL 11 0 14 (by decide) rfl) rfl b6 ?_
      obtain ⟨g7, hg7, h⟩ := d_lt_some h
      refine u_mem (σ2 := (upM σ 11 0 g7)) (by rw [hg7]) ?_
      refine u_aload_n (pc := 102) F dX11_beginAll_102 0 rfl rfl ?_
      refine u_getA (pc := 103) F dX11_beginAll_103 (hL 11 0 0 (by decide) rfl) ck_11 fl_11_34 rfl (by decide) (by decide) ?_
      refine u_bipush (v := 34) (pc := 106) F dX11_beginAll_106 (by decide) ?_
      refine u_iload_n (pc := 108) F dX11_beginAll_108 1 rfl rfl ?_
      refine u_iadd (pc := 109) F dX11_beginAll_109 ?_
      refine u_iconst (v := -1) (pc := 110) F dX11_beginAll_110 (by decide) ?_
      obtain ⟨b8, h⟩ := d_ab_some h
      refine u_astI1 (pc := 111) F dX11_beginAll_111 (hL 11 0 14 (by decide) rfl) rfl b8 ?_
      obtain ⟨g9, hg9, h⟩ := d_lt_some h
      refine u_mem (σ2 := (upM σ 11 0 g9)) (by rw [hg9]) ?_
      refine u_iconst (v := 0) (pc := 112) F dX11_beginAll_112 (by decide) ?_
      refine u_istore_n (lv' := [(2, .int (0 : Int32)), (0, .ref (adr G (11, 0, 0))), (1, .int x1)]) (pc := 113) F dX11_beginAll_113 rfl hY (by decide) rfl ?_
      obtain ⟨q15, hq15, h⟩ := d_bd_some h
      refine u_lv (lv' := [(0, .ref (adr G (11, 0, 0))), (1, .int x1), (2, .int (0 : Int32))]) [1, 2, 0] rfl ?_
      refine wX11_beginAll_114 Y G hL σ F hY 1000 g9 x1 (0 : Int32) q15.1 q15.2 hq15 ?_
      obtain ⟨v16, hv16, h⟩ := d_lt_some h
      refine u_iinc (lv' := [(1, .int v16), (0, .ref (adr G (11, 0, 0)))]) (pc := 147) F dX11_beginAll_147 1 rfl hv16.symm hY (by decide) rfl ?_
      refine u_goto (pc := 150) F 87 dX11_beginAll_150 (by decide) ?_
      refine u_lv (lv' := [(0, .ref (adr G (11, 0, 0))), (1, .int v16)]) [1, 0] rfl ?_
      exact ih q15.2 v16 h
set_option maxHeartbeats 4000000 in
set_option maxRecDepth 100000 in
theorem wX11_beginAll_23 (Y : Dy) (G : G0) (hL : Im G) (σ : Mem) (F : Fx Y G cX11_beginAll RX11 1) (hY : Y.2.2.2.2.2.2.2.2.2.2.2.1 = 3) (mo' : Grp) (hR : ∀ (pc : Nat) (lv : List (Nat × Value)), decode cX11_beginAll pc = .ok (.return_, 1) → U Y G (upM σ 11 0 (mo')) pc lv []) :
    ∀ (fu : Nat) (mo : Grp) (x1 : Int32), fX11_beginAll_23 fu mo x1 = some mo' → U Y G (upM σ 11 0 mo) 23 [(0, .ref (adr G (11, 0, 0))), (1, .int x1)] [] := by
  intro fu
  induction fu with
  | zero =>
    intro mo x1 h
    rw [fX11_beginAll_23] at h
    cases h
  | succ fu ih =>
    intro mo x1 h
    rw [fX11_beginAll_23] at h
    refine u_iload_n (pc := 23) F dX11_beginAll_23 1 rfl rfl ?_
    refine u_aload_n (pc := 24) F dX11_beginAll_24 0 rfl rfl ?_
    refine u_get1 (pc := 25) F dX11_beginAll_25 (hL 11 0 0 (by decide) rfl) ck_11 fl_11_102 rfl (by decide) ?_
    refine u_icmp_ge (pc := 28) F 74 dX11_beginAll_28 (by decide) (fun c2 => ?_) (fun c2 => ?_)
    · rw [if_neg c2] at h
      refine u_aload_n (pc := 74) F dX11_beginAll_74 0 rfl rfl ?_
      refine u_getA (pc := 75) F dX11_beginAll_75 (hL 11 0 0 (by decide) rfl) ck_11 fl_11_34 rfl (by decide) (by decide) ?_
      refine u_bipush (v := 15) (pc := 78) F dX11_beginAll_78 (by decide) ?_
      refine u_aload_n (pc := 80) F dX11_beginAll_80 0 rfl rfl ?_
      refine u_get1 (pc := 81) F dX11_beginAll_81 (hL 11 0 0 (by decide) rfl) ck_11 fl_11_160 rfl (by decide) ?_
      obtain ⟨b3, h⟩ := d_ab_some h
      refine u_astI1 (pc := 84) F dX11_beginAll_84 (hL 11 0 14 (by decide) rfl) rfl b3 ?_
      obtain ⟨g4, hg4, h⟩ := d_lt_some h
      refine u_mem (σ2 := (upM σ 11 0 g4)) (by rw [hg4]) ?_
      refine u_iconst (v := 0) (pc := 85) F dX11_beginAll_85 (by decide) ?_
      refine u_istore_n (lv' := [(1, .int (0 : Int32)), (0, .ref (adr G (11, 0, 0)))]) (pc := 86) F dX11_beginAll_86 rfl hY (by decide) rfl ?_
      refine u_lv (lv' := [(0, .ref (adr G (11, 0, 0))), (1, .int (0 : Int32))]) [1, 0] rfl ?_
      exact wX11_beginAll_87 Y G hL σ F hY mo' hR 1000 g4 (0 : Int32) h
    · rw [if_pos c2] at h
      refine u_aload_n (pc := 31) F dX11_beginAll_31 0 rfl rfl ?_
      refine u_getA (pc := 32) F dX11_beginAll_32 (hL 11 0 0 (by decide) rfl) ck_11 fl_11_34 rfl (by decide) (by decide) ?_
      refine u_iload_n (pc := 35) F dX11_beginAll_35 1 rfl rfl ?_
      refine u_aload_n (pc := 36) F dX11_beginAll_36 0 rfl rfl ?_
      refine u_getA (pc := 37) F dX11_beginAll_37 (hL 11 0 0 (by decide) rfl) ck_11 fl_11_22 rfl (by decide) (by decide) ?_
      refine u_iload_n (pc := 40) F dX11_beginAll_40 1 rfl rfl ?_
      obtain ⟨b17, h⟩ := d_ab_some h
      refine u_aldI1 (pc := 41) F dX11_beginAll_41 (hL 11 0 10 (by decide) rfl) rfl b17 ?_
      obtain ⟨b18, h⟩ := d_ab_some h
      refine u_astI1 (pc := 42) F dX11_beginAll_42 (hL 11 0 14 (by decide) rfl) rfl b18 ?_
      obtain ⟨g19, hg19, h⟩ := d_lt_some h
      refine u_mem (σ2 := (upM σ 11 0 g19)) (by rw [hg19]) ?_
      refine u_aload_n (pc := 43) F dX11_beginAll_43 0 rfl rfl ?_
      refine u_getA (pc := 44) F dX11_beginAll_44 (hL 11 0 0 (by decide) rfl) ck_11 fl_11_34 rfl (by decide) (by decide) ?_
      refine u_iconst (v := 5) (pc := 47) F dX11_beginAll_47 (by decide) ?_
      refine u_iload_n (pc := 48) F dX11_beginAll_48 1 rfl rfl ?_
      refine u_iadd (pc := 49) F dX11_beginAll_49 ?_
      refine u_aload_n (pc := 50) F dX11_beginAll_50 0 rfl rfl ?_
      refine u_getA (pc := 51) F dX11_beginAll_51 (hL 11 0 0 (by decide) rfl) ck_11 fl_11_31 rfl (by decide) (by decide) ?_
      refine u_iload_n (pc := 54) F dX11_beginAll_54 1 rfl rfl ?_
      obtain ⟨b20, h⟩ := d_ab_some h
      refine u_aldI1 (pc := 55) F dX11_beginAll_55 (hL 11 0 13 (by decide) rfl) rfl b20 ?_
      obtain ⟨b21, h⟩ := d_ab_some h
      refine u_astI1 (pc := 56) F dX11_beginAll_56 (hL 11 0 14 (by decide) rfl) rfl b21 ?_
      obtain ⟨g22, hg22, h⟩ := d_lt_some h
      refine u_mem (σ2 := (upM σ 11 0 g22)) (by rw [hg22]) ?_
      refine u_aload_n (pc := 57) F dX11_beginAll_57 0 rfl rfl ?_
      refine u_getA (pc := 58) F dX11_beginAll_58 (hL 11 0 0 (by decide) rfl) ck_11 fl_11_34 rfl (by decide) (by decide) ?_
      refine u_bipush (v := 10) (pc := 61) F dX11_beginAll_61 (by decide) ?_
      refine u_iload_n (pc := 63) F dX11_beginAll_63 1 rfl rfl ?_
      refine u_iadd (pc := 64) F dX11_beginAll_64 ?_
      refine u_bipush (v := 60) (pc := 65) F dX11_beginAll_65 (by decide) ?_
      obtain ⟨b23, h⟩ := d_ab_some h
      refine u_astI1 (pc := 67) F dX11_beginAll_67 (hL 11 0 14 (by decide) rfl) rfl b23 ?_
      obtain ⟨g24, hg24, h⟩ := d_lt_some h
      refine u_mem (σ2 := (upM σ 11 0 g24)) (by rw [hg24]) ?_
      obtain ⟨v25, hv25, h⟩ := d_lt_some h
      refine u_iinc (lv' := [(1, .int v25), (0, .ref (adr G (11, 0, 0)))]) (pc := 68) F dX11_beginAll_68 1 rfl hv25.symm hY (by decide) rfl ?_
      refine u_goto (pc := 71) F 23 dX11_beginAll_71 (by decide) ?_
      refine u_lv (lv' := [(0, .ref (adr G (11, 0, 0))), (1, .int v25)]) [1, 0] rfl ?_
      exact ih g24 v25 h
set_option maxHeartbeats 4000000 in
set_option maxRecDepth 100000 in
theorem wX11_beginAll_2 (Y : Dy) (G : G0) (hL : Im G) (σ : Mem) (F : Fx Y G cX11_beginAll RX11 1) (hY : Y.2.2.2.2.2.2.2.2.2.2.2.1 = 3) (mo' : Grp) (hR : ∀ (pc : Nat) (lv : List (Nat × Value)), decode cX11_beginAll pc = .ok (.return_, 1) → U Y G (upM σ 11 0 (mo')) pc lv []) :
    ∀ (fu : Nat) (mo : Grp) (x1 : Int32), fX11_beginAll_2 fu mo x1 = some mo' → U Y G (upM σ 11 0 mo) 2 [(0, .ref (adr G (11, 0, 0))), (1, .int x1)] [] := by
  intro fu
  induction fu with
  | zero =>
    intro mo x1 h
    rw [fX11_beginAll_2] at h
    cases h
  | succ fu ih =>
    intro mo x1 h
    rw [fX11_beginAll_2] at h
    refine u_iload_n (pc := 2) F dX11_beginAll_2 1 rfl rfl ?_
    refine u_bipush (v := 59) (pc := 3) F dX11_beginAll_3 (by decide) ?_
    refine u_icmp_ge (pc := 5) F 21 dX11_beginAll_5 (by decide) (fun c1 => ?_) (fun c1 => ?_)
    · rw [if_neg c1] at h
      refine u_iconst (v := 0) (pc := 21) F dX11_beginAll_21 (by decide) ?_
      refine u_istore_n (lv' := [(1, .int (0 : Int32)), (0, .ref (adr G (11, 0, 0)))]) (pc := 22) F dX11_beginAll_22 rfl hY (by decide) rfl ?_
      refine u_lv (lv' := [(0, .ref (adr G (11, 0, 0))), (1, .int (0 : Int32))]) [1, 0] rfl ?_
      exact wX11_beginAll_23 Y G hL σ F hY mo' hR 1000 mo (0 : Int32) h
    · rw [if_pos c1] at h
      refine u_aload_n (pc := 8) F dX11_beginAll_8 0 rfl rfl ?_
      refine u_getA (pc := 9) F dX11_beginAll_9 (hL 11 0 0 (by decide) rfl) ck_11 fl_11_34 rfl (by decide) (by decide) ?_
      refine u_iload_n (pc := 12) F dX11_beginAll_12 1 rfl rfl ?_
      refine u_iconst (v := 0) (pc := 13) F dX11_beginAll_13 (by decide) ?_
      obtain ⟨b26, h⟩ := d_ab_some h
      refine u_astI1 (pc := 14) F dX11_beginAll_14 (hL 11 0 14 (by decide) rfl) rfl b26 ?_
      obtain ⟨g27, hg27, h⟩ := d_lt_some h
      refine u_mem (σ2 := (upM σ 11 0 g27)) (by rw [hg27]) ?_
      obtain ⟨v28, hv28, h⟩ := d_lt_some h
      refine u_iinc (lv' := [(1, .int v28), (0, .ref (adr G (11, 0, 0)))]) (pc := 15) F dX11_beginAll_15 1 rfl hv28.symm hY (by decide) rfl ?_
      refine u_goto (pc := 18) F 2 dX11_beginAll_18 (by decide) ?_
      refine u_lv (lv' := [(0, .ref (adr G (11, 0, 0))), (1, .int v28)]) [1, 0] rfl ?_
      exact ih g27 v28 h
set_option maxHeartbeats 4000000 in
set_option maxRecDepth 100000 in
theorem c_X11_beginAll (G : G0) (hL : Im G) (σ : Mem) (mo : Grp) (e_mo : σ 11 0 = mo) (mo' : Grp) (h : fX11_beginAll mo = some mo') :
    CV G yX11_beginAll cX11_beginAll 3 1 [.ref (adr G (11, 0, 0))] σ (upM σ 11 0 (mo')) := by
  refine CV.of (by decide +kernel) (Nat.le_of_ble_eq_true rfl) (fun Y hY F hR => ?_)
  unfold fX11_beginAll at h
  have F : Fx Y G cX11_beginAll RX11 1 := F
  refine u_mem (σ2 := (upM σ 11 0 mo)) (by rw [← e_mo]; simp only [upM_self]) ?_
  refine u_lv (lv' := [(0, .ref (adr G (11, 0, 0)))]) [0] rfl ?_
  refine u_iconst (v := 0) (pc := 0) F dX11_beginAll_0 (by decide) ?_
  refine u_istore_n (lv' := [(1, .int (0 : Int32)), (0, .ref (adr G (11, 0, 0)))]) (pc := 1) F dX11_beginAll_1 rfl hY (by decide) rfl ?_
  refine u_lv (lv' := [(0, .ref (adr G (11, 0, 0))), (1, .int (0 : Int32))]) [1, 0] rfl ?_
  exact wX11_beginAll_2 Y G hL σ F hY mo' hR 1000 mo (0 : Int32) h
/- RollingCodesModel.takeRead -/
def fX11_takeRead_47  (mo : Grp) (s1 : Int32) : Option (Grp) :=
    d_lt (wr mo 0 2 s1) fun g6 => d_lt (wr g6 0 3 (g6 0 22)) fun g7 => d_lt (wr g7 0 7 (g7 0 26)) fun g8 => d_bd (fX11_copyRow g8 23 4 4 4 (g8 0 3)) fun q9 => d_bd (fX11_copyRow q9 24 4 5 4 (q9 0 3)) fun q10 => d_bd (fX11_copyRow q10 25 4 6 4 (q10 0 3)) fun q11 => d_bd (fX11_copyRow q11 27 5 8 5 (q11 0 7)) fun q12 => d_bd (fX11_copyRow q12 28 5 9 5 (q12 0 7)) fun q13 => d_bd (fX11_copyRow q13 29 5 10 5 (q13 0 7)) fun q14 => d_bd (fX11_copyRow q14 30 5 11 5 (q14 0 7)) fun q15 => d_bd (fX11_copyRow q15 31 5 12 5 (q15 0 7)) fun q16 => d_bd (fX11_beginAll q16) fun q17 => some q17
def fX11_takeRead_26  (mo : Grp) (s1 : Int32) : Option (Grp) :=
    d_lt (wr mo 0 1 s1) fun g4 => if (g4 0 20) = 0 then (fX11_takeRead_47 g4 (0 : Int32)) else (d_ab (1 : Int32) 2 <| fX11_takeRead_47 g4 (g4 22 (1 : Int32).toNatClampNeg))
def fX11_takeRead (mo : Grp) : Option (Grp) :=
    d_zb (mo 0 20) <| d_lt (wr mo 0 0 (mo 0 20)) fun g2 => if (g2 0 20) = 0 then (fX11_takeRead_26 g2 (0 : Int32)) else (d_ab (0 : Int32) 2 <| fX11_takeRead_26 g2 (g2 22 (0 : Int32).toNatClampNeg))
set_option maxHeartbeats 4000000 in
set_option maxRecDepth 100000 in
theorem wX11_takeRead_47 (Y : Dy) (G : G0) (hL : Im G) (σ : Mem) (F : Fx Y G cX11_takeRead RX11 2) (hY : Y.2.2.2.2.2.2.2.2.2.2.2.1 = 1) (mo' : Grp) (hR : ∀ (pc : Nat) (lv : List (Nat × Value)), decode cX11_takeRead pc = .ok (.return_, 1) → U Y G (upM σ 11 0 (mo')) pc lv []) :
    ∀ (mo : Grp) (s1 : Int32), fX11_takeRead_47 mo s1 = some mo' → U Y G (upM σ 11 0 mo) 47 [(0, .ref (adr G (11, 0, 0)))] [.int s1, .ref (adr G (11, 0, 0))] := by
  intro mo s1 h
  unfold fX11_takeRead_47 at h
  refine u_put1 (pc := 47) F dX11_takeRead_47 (hL 11 0 0 (by decide) rfl) ck_11 fl_11_166 rfl (by decide) rfl (ty0 := .int) (by decide +kernel) rfl rfl ?_
  obtain ⟨g6, hg6, h⟩ := d_lt_some h
  refine u_mem (σ2 := (upM σ 11 0 g6)) (by rw [hg6]) ?_
  refine u_aload_n (pc := 50) F dX11_takeRead_50 0 rfl rfl ?_
  refine u_aload_n (pc := 51) F dX11_takeRead_51 0 rfl rfl ?_
  refine u_get1 (pc := 52) F dX11_takeRead_52 (hL 11 0 0 (by decide) rfl) ck_11 fl_11_145 rfl (by decide) ?_
  refine u_put1 (pc := 55) F dX11_takeRead_55 (hL 11 0 0 (by decide) rfl) ck_11 fl_11_99 rfl (by decide) rfl (ty0 := .int) (by decide +kernel) rfl rfl ?_
  obtain ⟨g7, hg7, h⟩ := d_lt_some h
  refine u_mem (σ2 := (upM σ 11 0 g7)) (by rw [hg7]) ?_
  refine u_aload_n (pc := 58) F dX11_takeRead_58 0 rfl rfl ?_
  refine u_aload_n (pc := 59) F dX11_takeRead_59 0 rfl rfl ?_
  refine u_get1 (pc := 60) F dX11_takeRead_60 (hL 11 0 0 (by decide) rfl) ck_11 fl_11_148 rfl (by decide) ?_
  refine u_put1 (pc := 63) F dX11_takeRead_63 (hL 11 0 0 (by decide) rfl) ck_11 fl_11_102 rfl (by decide) rfl (ty0 := .int) (by decide +kernel) rfl rfl ?_
  obtain ⟨g8, hg8, h⟩ := d_lt_some h
  refine u_mem (σ2 := (upM σ 11 0 g8)) (by rw [hg8]) ?_
  refine u_aload_n (pc := 66) F dX11_takeRead_66 0 rfl rfl ?_
  refine u_getA (pc := 67) F dX11_takeRead_67 (hL 11 0 0 (by decide) rfl) ck_11 fl_11_47 rfl (by decide) (by decide) ?_
  refine u_aload_n (pc := 70) F dX11_takeRead_70 0 rfl rfl ?_
  refine u_getA (pc := 71) F dX11_takeRead_71 (hL 11 0 0 (by decide) rfl) ck_11 fl_11_7 rfl (by decide) (by decide) ?_
  refine u_aload_n (pc := 74) F dX11_takeRead_74 0 rfl rfl ?_
  refine u_get1 (pc := 75) F dX11_takeRead_75 (hL 11 0 0 (by decide) rfl) ck_11 fl_11_99 rfl (by decide) ?_
  obtain ⟨q9, hq9, h⟩ := d_bd_some h
  refine u_callSv (pc := 78) F (As := [.ref (adr G (11, 0, 24)), .ref (adr G (11, 0, 5)), .int (g8 0 3)]) (c_X11_copyRow G hL 23 4 rfl 4 4 rfl (g8 0 3) (upM σ 11 0 g8) g8 (upM_same _ _ _ _) q9 hq9) ys_X11_copyRow ml_11_169 (by decide) rfl rfl (Nat.le_of_ble_eq_true rfl) dX11_takeRead_78 ?_
  refine u_mem (σ2 := (upM σ 11 0 q9)) (by first | (rw [upM_upM]; done) | (rw [upM_mid _ _ _ _ (by decide)]; done) | (rw [upM_mid _ _ _ _ (by decide), upM_upM]; done) | (rw [upM_mid _ _ _ _ (by decide), upM_mid _ _ _ _ (by decide)]; done)) ?_
  refine u_aload_n (pc := 81) F dX11_takeRead_81 0 rfl rfl ?_
  refine u_getA (pc := 82) F dX11_takeRead_82 (hL 11 0 0 (by decide) rfl) ck_11 fl_11_50 rfl (by decide) (by decide) ?_
  refine u_aload_n (pc := 85) F dX11_takeRead_85 0 rfl rfl ?_
  refine u_getA (pc := 86) F dX11_takeRead_86 (hL 11 0 0 (by decide) rfl) ck_11 fl_11_13 rfl (by decide) (by decide) ?_
  refine u_aload_n (pc := 89) F dX11_takeRead_89 0 rfl rfl ?_
  refine u_get1 (pc := 90) F dX11_takeRead_90 (hL 11 0 0 (by decide) rfl) ck_11 fl_11_99 rfl (by decide) ?_
  obtain ⟨q10, hq10, h⟩ := d_bd_some h
  refine u_callSv (pc := 93) F (As := [.ref (adr G (11, 0, 25)), .ref (adr G (11, 0, 6)), .int (q9 0 3)]) (c_X11_copyRow G hL 24 4 rfl 5 4 rfl (q9 0 3) (upM σ 11 0 q9) q9 (upM_same _ _ _ _) q10 hq10) ys_X11_copyRow ml_11_169 (by decide) rfl rfl (Nat.le_of_ble_eq_true rfl) dX11_takeRead_93 ?_
  refine u_mem (σ2 := (upM σ 11 0 q10)) (by first | (rw [upM_upM]; done) | (rw [upM_mid _ _ _ _ (by decide)]; done) | (rw [upM_mid _ _ _ _ (by decide), upM_upM]; done) | (rw [upM_mid _ _ _ _ (by decide), upM_mid _ _ _ _ (by decide)]; done)) ?_
  refine u_aload_n (pc := 96) F dX11_takeRead_96 0 rfl rfl ?_
  refine u_getA (pc := 97) F dX11_takeRead_97 (hL 11 0 0 (by decide) rfl) ck_11 fl_11_53 rfl (by decide) (by decide) ?_
  refine u_aload_n (pc := 100) F dX11_takeRead_100 0 rfl rfl ?_
  refine u_getA (pc := 101) F dX11_takeRead_101 (hL 11 0 0 (by decide) rfl) ck_11 fl_11_16 rfl (by decide) (by decide) ?_
  refine u_aload_n (pc := 104) F dX11_takeRead_104 0 rfl rfl ?_
  refine u_get1 (pc := 105) F dX11_takeRead_105 (hL 11 0 0 (by decide) rfl) ck_11 fl_11_99 rfl (by decide) ?_
  obtain ⟨q11, hq11, h⟩ := d_bd_some h
  refine u_callSv (pc := 108) F (As := [.ref (adr G (11, 0, 26)), .ref (adr G (11, 0, 7)), .int (q10 0 3)]) (c_X11_copyRow G hL 25 4 rfl 6 4 rfl (q10 0 3) (upM σ 11 0 q10) q10 (upM_same _ _ _ _) q11 hq11) ys_X11_copyRow ml_11_169 (by decide) rfl rfl (Nat.le_of_ble_eq_true rfl) dX11_takeRead_108 ?_
  refine u_mem (σ2 := (upM σ 11 0 q11)) (by first | (rw [upM_upM]; done) | (rw [upM_mid _ _ _ _ (by decide)]; done) | (rw [upM_mid _ _ _ _ (by decide), upM_upM]; done) | (rw [upM_mid _ _ _ _ (by decide), upM_mid _ _ _ _ (by decide)]; done)) ?_
  refine u_aload_n (pc := 111) F dX11_takeRead_111 0 rfl rfl ?_
  refine u_getA (pc := 112) F dX11_takeRead_112 (hL 11 0 0 (by decide) rfl) ck_11 fl_11_56 rfl (by decide) (by decide) ?_
  refine u_aload_n (pc := 115) F dX11_takeRead_115 0 rfl rfl ?_
  refine u_getA (pc := 116) F dX11_takeRead_116 (hL 11 0 0 (by decide) rfl) ck_11 fl_11_19 rfl (by decide) (by decide) ?_
  refine u_aload_n (pc := 119) F dX11_takeRead_119 0 rfl rfl ?_
  refine u_get1 (pc := 120) F dX11_takeRead_120 (hL 11 0 0 (by decide) rfl) ck_11 fl_11_102 rfl (by decide) ?_
  obtain ⟨q12, hq12, h⟩ := d_bd_some h
  refine u_callSv (pc := 123) F (As := [.ref (adr G (11, 0, 28)), .ref (adr G (11, 0, 9)), .int (q11 0 7)]) (c_X11_copyRow G hL 27 5 rfl 8 5 rfl (q11 0 7) (upM σ 11 0 q11) q11 (upM_same _ _ _ _) q12 hq12) ys_X11_copyRow ml_11_169 (by decide) rfl rfl (Nat.le_of_ble_eq_true rfl) dX11_takeRead_123 ?_
  refine u_mem (σ2 := (upM σ 11 0 q12)) (by first | (rw [upM_upM]; done) | (rw [upM_mid _ _ _ _ (by decide)]; done) | (rw [upM_mid _ _ _ _ (by decide), upM_upM]; done) | (rw [upM_mid _ _ _ _ (by decide), upM_mid _ _ _ _ (by decide)]; done)) ?_
  refine u_aload_n (pc := 126) F dX11_takeRead_126 0 rfl rfl ?_
  refine u_getA (pc := 127) F dX11_takeRead_127 (hL 11 0 0 (by decide) rfl) ck_11 fl_11_59 rfl (by decide) (by decide) ?_
  refine u_aload_n (pc := 130) F dX11_takeRead_130 0 rfl rfl ?_
  refine u_getA (pc := 131) F dX11_takeRead_131 (hL 11 0 0 (by decide) rfl) ck_11 fl_11_22 rfl (by decide) (by decide) ?_
  refine u_aload_n (pc := 134) F dX11_takeRead_134 0 rfl rfl ?_
  refine u_get1 (pc := 135) F dX11_takeRead_135 (hL 11 0 0 (by decide) rfl) ck_11 fl_11_102 rfl (by decide) ?_
  obtain ⟨q13, hq13, h⟩ := d_bd_some h
  refine u_callSv (pc := 138) F (As := [.ref (adr G (11, 0, 29)), .ref (adr G (11, 0, 10)), .int (q12 0 7)]) (c_X11_copyRow G hL 28 5 rfl 9 5 rfl (q12 0 7) (upM σ 11 0 q12) q12 (upM_same _ _ _ _) q13 hq13) ys_X11_copyRow ml_11_169 (by decide) rfl rfl (Nat.le_of_ble_eq_true rfl) dX11_takeRead_138 ?_
  refine u_mem (σ2 := (upM σ 11 0 q13)) (by first | (rw [upM_upM]; done) | (rw [upM_mid _ _ _ _ (by decide)]; done) | (rw [upM_mid _ _ _ _ (by decide), upM_upM]; done) | (rw [upM_mid _ _ _ _ (by decide), upM_mid _ _ _ _ (by decide)]; done)) ?_
  refine u_aload_n (pc := 141) F dX11_takeRead_141 0 rfl rfl ?_
  refine u_getA (pc := 142) F dX11_takeRead_142 (hL 11 0 0 (by decide) rfl) ck_11 fl_11_62 rfl (by decide) (by decide) ?_
  refine u_aload_n (pc := 145) F dX11_takeRead_145 0 rfl rfl ?_
  refine u_getA (pc := 146) F dX11_takeRead_146 (hL 11 0 0 (by decide) rfl) ck_11 fl_11_25 rfl (by decide) (by decide) ?_
  refine u_aload_n (pc := 149) F dX11_takeRead_149 0 rfl rfl ?_
  refine u_get1 (pc := 150) F dX11_takeRead_150 (hL 11 0 0 (by decide) rfl) ck_11 fl_11_102 rfl (by decide) ?_
  obtain ⟨q14, hq14, h⟩ := d_bd_some h
  refine u_callSv (pc := 153) F (As := [.ref (adr G (11, 0, 30)), .ref (adr G (11, 0, 11)), .int (q13 0 7)]) (c_X11_copyRow G hL 29 5 rfl 10 5 rfl (q13 0 7) (upM σ 11 0 q13) q13 (upM_same _ _ _ _) q14 hq14) ys_X11_copyRow ml_11_169 (by decide) rfl rfl (Nat.le_of_ble_eq_true rfl) dX11_takeRead_153 ?_
  refine u_mem (σ2 := (upM σ 11 0 q14)) (by first | (rw [upM_upM]; done) | (rw [upM_mid _ _ _ _ (by decide)]; done) | (rw [upM_mid _ _ _ _ (by decide), upM_upM]; done) | (rw [upM_mid _ _ _ _ (by decide), upM_mid _ _ _ _ (by decide)]; done)) ?_
  refine u_aload_n (pc := 156) F dX11_takeRead_156 0 rfl rfl ?_
  refine u_getA (pc := 157) F dX11_takeRead_157 (hL 11 0 0 (by decide) rfl) ck_11 fl_11_65 rfl (by decide) (by decide) ?_
  refine u_aload_n (pc := 160) F dX11_takeRead_160 0 rfl rfl ?_
  refine u_getA (pc := 161) F dX11_takeRead_161 (hL 11 0 0 (by decide) rfl) ck_11 fl_11_28 rfl (by decide) (by decide) ?_
  refine u_aload_n (pc := 164) F dX11_takeRead_164 0 rfl rfl ?_
  refine u_get1 (pc := 165) F dX11_takeRead_165 (hL 11 0 0 (by decide) rfl) ck_11 fl_11_102 rfl (by decide) ?_
  obtain ⟨q15, hq15, h⟩ := d_bd_some h
  refine u_callSv (pc := 168) F (As := [.ref (adr G (11, 0, 31)), .ref (adr G (11, 0, 12)), .int (q14 0 7)]) (c_X11_copyRow G hL 30 5 rfl 11 5 rfl (q14 0 7) (upM σ 11 0 q14) q14 (upM_same _ _ _ _) q15 hq15) ys_X11_copyRow ml_11_169 (by decide) rfl rfl (Nat.le_of_ble_eq_true rfl) dX11_takeRead_168 ?_
  refine u_mem (σ2 := (upM σ 11 0 q15)) (by first | (rw [upM_upM]; done) | (rw [upM_mid _ _ _ _ (by decide)]; done) | (rw [upM_mid _ _ _ _ (by decide), upM_upM]; done) | (rw [upM_mid _ _ _ _ (by decide), upM_mid _ _ _ _ (by decide)]; done)) ?_
  refine u_aload_n (pc := 171) F dX11_takeRead_171 0 rfl rfl ?_
  refine u_getA (pc := 172) F dX11_takeRead_172 (hL 11 0 0 (by decide) rfl) ck_11 fl_11_68 rfl (by decide) (by decide) ?_
  refine u_aload_n (pc := 175) F dX11_takeRead_175 0 rfl rfl ?_
  refine u_getA (pc := 176) F dX11_takeRead_176 (hL 11 0 0 (by decide) rfl) ck_11 fl_11_31 rfl (by decide) (by decide) ?_
  refine u_aload_n (pc := 179) F dX11_takeRead_179 0 rfl rfl ?_
  refine u_get1 (pc := 180) F dX11_takeRead_180 (hL 11 0 0 (by decide) rfl) ck_11 fl_11_102 rfl (by decide) ?_
  obtain ⟨q16, hq16, h⟩ := d_bd_some h
  refine u_callSv (pc := 183) F (As := [.ref (adr G (11, 0, 32)), .ref (adr G (11, 0, 13)), .int (q15 0 7)]) (c_X11_copyRow G hL 31 5 rfl 12 5 rfl (q15 0 7) (upM σ 11 0 q15) q15 (upM_same _ _ _ _) q16 hq16) ys_X11_copyRow ml_11_169 (by decide) rfl rfl (Nat.le_of_ble_eq_true rfl) dX11_takeRead_183 ?_
  refine u_mem (σ2 := (upM σ 11 0 q16)) (by first | (rw [upM_upM]; done) | (rw [upM_mid _ _ _ _ (by decide)]; done) | (rw [upM_mid _ _ _ _ (by decide), upM_upM]; done) | (rw [upM_mid _ _ _ _ (by decide), upM_mid _ _ _ _ (by decide)]; done)) ?_
  refine u_aload_n (pc := 186) F dX11_takeRead_186 0 rfl rfl ?_
  obtain ⟨q17, hq17, h⟩ := d_bd_some h
  refine u_callv (pc := 187) F (As := []) (c_X11_beginAll G hL (upM σ 11 0 q16) q16 (upM_same _ _ _ _) q17 hq17) yv_X11_beginAll ml_11_173 (hL 11 0 0 (by decide) rfl) rfl (by decide) rfl rfl (Nat.le_of_ble_eq_true rfl) dX11_takeRead_187 ?_
  refine u_mem (σ2 := (upM σ 11 0 q17)) (by first | (rw [upM_upM]; done) | (rw [upM_mid _ _ _ _ (by decide)]; done) | (rw [upM_mid _ _ _ _ (by decide), upM_upM]; done) | (rw [upM_mid _ _ _ _ (by decide), upM_mid _ _ _ _ (by decide)]; done)) ?_
  have h1 := Option.some.inj h
  subst h1
  exact hR _ _ dX11_takeRead_190
set_option maxHeartbeats 4000000 in
set_option maxRecDepth 100000 in
theorem wX11_takeRead_26 (Y : Dy) (G : G0) (hL : Im G) (σ : Mem) (F : Fx Y G cX11_takeRead RX11 2) (hY : Y.2.2.2.2.2.2.2.2.2.2.2.1 = 1) (mo' : Grp) (hR : ∀ (pc : Nat) (lv : List (Nat × Value)), decode cX11_takeRead pc = .ok (.return_, 1) → U Y G (upM σ 11 0 (mo')) pc lv []) :
    ∀ (mo : Grp) (s1 : Int32), fX11_takeRead_26 mo s1 = some mo' → U Y G (upM σ 11 0 mo) 26 [(0, .ref (adr G (11, 0, 0)))] [.int s1, .ref (adr G (11, 0, 0))] := by
  intro mo s1 h
  unfold fX11_takeRead_26 at h
  refine u_put1 (pc := 26) F dX11_takeRead_26 (hL 11 0 0 (by decide) rfl) ck_11 fl_11_160 rfl (by decide) rfl (ty0 := .int) (by decide +kernel) rfl rfl ?_
  obtain ⟨g4, hg4, h⟩ := d_lt_some h
  refine u_mem (σ2 := (upM σ 11 0 g4)) (by rw [hg4]) ?_
  refine u_aload_n (pc := 29) F dX11_takeRead_29 0 rfl rfl ?_
  refine u_aload_n (pc := 30) F dX11_takeRead_30 0 rfl rfl ?_
  refine u_get1 (pc := 31) F dX11_takeRead_31 (hL 11 0 0 (by decide) rfl) ck_11 fl_11_137 rfl (by decide) ?_
  refine u_if_eq (pc := 34) F 46 dX11_takeRead_34 (by decide) (fun c5 => ?_) (fun c5 => ?_)
  · rw [if_pos c5] at h
    refine u_iconst (v := 0) (pc := 46) F dX11_takeRead_46 (by decide) ?_
    exact wX11_takeRead_47 Y G hL σ F hY mo' hR g4 (0 : Int32) h
  · rw [if_neg c5] at h
    refine u_aload_n (pc := 37) F dX11_takeRead_37 0 rfl rfl ?_
    refine u_getA (pc := 38) F dX11_takeRead_38 (hL 11 0 0 (by decide) rfl) ck_11 fl_11_44 rfl (by decide) (by decide) ?_
    refine u_iconst (v := 1) (pc := 41) F dX11_takeRead_41 (by decide) ?_
    obtain ⟨b18, h⟩ := d_ab_some h
    refine u_aldI1 (pc := 42) F dX11_takeRead_42 (hL 11 0 22 (by decide) rfl) rfl b18 ?_
    refine u_goto (pc := 43) F 47 dX11_takeRead_43 (by decide) ?_
    exact wX11_takeRead_47 Y G hL σ F hY mo' hR g4 (g4 22 (1 : Int32).toNatClampNeg) h
set_option maxHeartbeats 4000000 in
set_option maxRecDepth 100000 in
theorem c_X11_takeRead (G : G0) (hL : Im G) (σ : Mem) (mo : Grp) (e_mo : σ 11 0 = mo) (mo' : Grp) (h : fX11_takeRead mo = some mo') :
    CV G yX11_takeRead cX11_takeRead 1 2 [.ref (adr G (11, 0, 0))] σ (upM σ 11 0 (mo')) := by
  refine CV.of (by decide +kernel) (Nat.le_of_ble_eq_true rfl) (fun Y hY F hR => ?_)
  unfold fX11_takeRead at h
  have F : Fx Y G cX11_takeRead RX11 2 := F
  refine u_mem (σ2 := (upM σ 11 0 mo)) (by rw [← e_mo]; simp only [upM_self]) ?_
  refine u_lv (lv' := [(0, .ref (adr G (11, 0, 0)))]) [0] rfl ?_
  refine u_aload_n (pc := 0) F dX11_takeRead_0 0 rfl rfl ?_
  refine u_aload_n (pc := 1) F dX11_takeRead_1 0 rfl rfl ?_
  refine u_get1 (pc := 2) F dX11_takeRead_2 (hL 11 0 0 (by decide) rfl) ck_11 fl_11_137 rfl (by decide) ?_
  obtain ⟨c1, h⟩ := d_zb_some h
  refine u_put1 (pc := 5) F dX11_takeRead_5 (hL 11 0 0 (by decide) rfl) ck_11 fl_11_163 rfl (by decide) rfl (ty0 := .boolean) (by decide +kernel) (nar_zb c1) (fit_zb c1) ?_
  obtain ⟨g2, hg2, h⟩ := d_lt_some h
  refine u_mem (σ2 := (upM σ 11 0 g2)) (by rw [hg2]) ?_
  refine u_aload_n (pc := 8) F dX11_takeRead_8 0 rfl rfl ?_
  refine u_aload_n (pc := 9) F dX11_takeRead_9 0 rfl rfl ?_
  refine u_get1 (pc := 10) F dX11_takeRead_10 (hL 11 0 0 (by decide) rfl) ck_11 fl_11_137 rfl (by decide) ?_
  refine u_if_eq (pc := 13) F 25 dX11_takeRead_13 (by decide) (fun c3 => ?_) (fun c3 => ?_)
  · rw [if_pos c3] at h
    refine u_iconst (v := 0) (pc := 25) F dX11_takeRead_25 (by decide) ?_
    exact wX11_takeRead_26 Y G hL σ F hY mo' hR g2 (0 : Int32) h
  · rw [if_neg c3] at h
    refine u_aload_n (pc := 16) F dX11_takeRead_16 0 rfl rfl ?_
    refine u_getA (pc := 17) F dX11_takeRead_17 (hL 11 0 0 (by decide) rfl) ck_11 fl_11_44 rfl (by decide) (by decide) ?_
    refine u_iconst (v := 0) (pc := 20) F dX11_takeRead_20 (by decide) ?_
    obtain ⟨b19, h⟩ := d_ab_some h
    refine u_aldI1 (pc := 21) F dX11_takeRead_21 (hL 11 0 22 (by decide) rfl) rfl b19 ?_
    refine u_goto (pc := 22) F 26 dX11_takeRead_22 (by decide) ?_
    exact wX11_takeRead_26 Y G hL σ F hY mo' hR g2 (g2 22 (0 : Int32).toNatClampNeg) h
/- RollingCodesModel.street -/
def fX11_street_46  (mo : Grp) (x1 : Int32) : Option (Int32 × Grp) :=
    d_lt (wr mo 0 16 (0 : Int32)) fun g7 => if x1 ≤ 0 then (d_bd (fX11_takeRead g7) fun q9 => d_lt (wr q9 0 37 (0 : Int32)) fun g10 => d_lt (wr g10 0 41 (0 : Int32)) fun g11 => d_lt (wr g11 0 32 (0 : Int32)) fun g12 => d_ab (0 : Int32) 2 <| d_lt (wr g12 46 (0 : Int32).toNatClampNeg (0 : Int32)) fun g14 => d_ab (1 : Int32) 2 <| d_lt (wr g14 46 (1 : Int32).toNatClampNeg (0 : Int32)) fun g16 => some (g16 0 7, g16)) else (some ((-10 : Int32) - x1, g7))
def fX11_street_27  : Nat → Grp → Int32 → Option (Int32 × Grp)
  | 0, _, _ => none
  | fu + 1, mo, x1 =>
    if x1 = 0 then (d_bd (fX11_here mo) fun q17 => if q17.1 < 0 then (fX11_street_46 q17.2 x1) else (d_bd (fX11_takeClause q17.2) fun q19 => fX11_street_27 fu q19.2 q19.1)) else (fX11_street_46 mo x1)
def fX11_street (mo : Grp) : Option (Int32 × Grp) :=
    d_lt (wr mo 0 17 (-1 : Int32)) fun g1 => d_lt (wr g1 0 18 (0 : Int32)) fun g2 => d_lt (wr g2 0 20 (0 : Int32)) fun g3 => d_lt (wr g3 0 22 (0 : Int32)) fun g4 => d_lt (wr g4 0 26 (0 : Int32)) fun g5 => fX11_street_27 1000 g5 (0 : Int32)
set_option maxHeartbeats 4000000 in
set_option maxRecDepth 100000 in
theorem wX11_street_46 (Y : Dy) (G : G0) (hL : Im G) (σ : Mem) (F : Fx Y G cX11_street RX11 6) (hY : Y.2.2.2.2.2.2.2.2.2.2.2.1 = 2) (r : Int32) (mo' : Grp) (hR : ∀ (pc : Nat) (lv : List (Nat × Value)), narrow .int (.int r) = .int r → decode cX11_street pc = .ok (.ireturn, 1) → U Y G (upM σ 11 0 (mo')) pc lv [.int r]) :
    ∀ (mo : Grp) (x1 : Int32), fX11_street_46 mo x1 = some (r, mo') → U Y G (upM σ 11 0 mo) 46 [(0, .ref (adr G (11, 0, 0))), (1, .int x1)] [] := by
  intro mo x1 h
  unfold fX11_street_46 at h
  refine u_aload_n (pc := 46) F dX11_street_46 0 rfl rfl ?_
  refine u_iconst (v := 0) (pc := 47) F dX11_street_47 (by decide) ?_
  refine u_put1 (pc := 48) F dX11_street_48 (hL 11 0 0 (by decide) rfl) ck_11 fl_11_112 rfl (by decide) rfl (ty0 := .int) (by decide +kernel) rfl rfl ?_
  obtain ⟨g7, hg7, h⟩ := d_lt_some h
  refine u_mem (σ2 := (upM σ 11 0 g7)) (by rw [hg7]) ?_
  refine u_iload_n (pc := 51) F dX11_street_51 1 rfl rfl ?_
  refine u_if_le (pc := 52) F 60 dX11_street_52 (by decide) (fun c8 => ?_) (fun c8 => ?_)
  · rw [if_pos c8] at h
    refine u_aload_n (pc := 60) F dX11_street_60 0 rfl rfl ?_
    obtain ⟨q9, hq9, h⟩ := d_bd_some h
    refine u_callv (pc := 61) F (As := []) (c_X11_takeRead G hL (upM σ 11 0 g7) g7 (upM_same _ _ _ _) q9 hq9) yv_X11_takeRead ml_11_179 (hL 11 0 0 (by decide) rfl) rfl (by decide) rfl rfl (Nat.le_of_ble_eq_true rfl) dX11_street_61 ?_
    refine u_mem (σ2 := (upM σ 11 0 q9)) (by first | (rw [upM_upM]; done) | (rw [upM_mid _ _ _ _ (by decide)]; done) | (rw [upM_mid _ _ _ _ (by decide), upM_upM]; done) | (rw [upM_mid _ _ _ _ (by decide), upM_mid _ _ _ _ (by decide)]; done)) ?_
    refine u_aload_n (pc := 64) F dX11_street_64 0 rfl rfl ?_
    refine u_iconst (v := 0) (pc := 65) F dX11_street_65 (by decide) ?_
    refine u_put1 (pc := 66) F dX11_street_66 (hL 11 0 0 (by decide) rfl) ck_11 fl_11_182 rfl (by decide) rfl (ty0 := .int) (by decide +kernel) rfl rfl ?_
    obtain ⟨g10, hg10, h⟩ := d_lt_some h
    refine u_mem (σ2 := (upM σ 11 0 g10)) (by rw [hg10]) ?_
    refine u_aload_n (pc := 69) F dX11_street_69 0 rfl rfl ?_
    refine u_iconst (v := 0) (pc := 70) F dX11_street_70 (by decide) ?_
    refine u_put1 (pc := 71) F dX11_street_71 (hL 11 0 0 (by decide) rfl) ck_11 fl_11_185 rfl (by decide) rfl (ty0 := .int) (by decide +kernel) rfl rfl ?_
    obtain ⟨g11, hg11, h⟩ := d_lt_some h
    refine u_mem (σ2 := (upM σ 11 0 g11)) (by rw [hg11]) ?_
    refine u_aload_n (pc := 74) F dX11_street_74 0 rfl rfl ?_
    refine u_iconst (v := 0) (pc := 75) F dX11_street_75 (by decide) ?_
    refine u_put1 (pc := 76) F dX11_street_76 (hL 11 0 0 (by decide) rfl) ck_11 fl_11_188 rfl (by decide) rfl (ty0 := .int) (by decide +kernel) rfl rfl ?_
    obtain ⟨g12, hg12, h⟩ := d_lt_some h
    refine u_mem (σ2 := (upM σ 11 0 g12)) (by rw [hg12]) ?_
    refine u_aload_n (pc := 79) F dX11_street_79 0 rfl rfl ?_
    refine u_getA (pc := 80) F dX11_street_80 (hL 11 0 0 (by decide) rfl) ck_11 fl_11_95 rfl (by decide) (by decide) ?_
    refine u_iconst (v := 0) (pc := 83) F dX11_street_83 (by decide) ?_
    refine u_iconst (v := 0) (pc := 84) F dX11_street_84 (by decide) ?_
    obtain ⟨b13, h⟩ := d_ab_some h
    refine u_astZ1 (pc := 85) F dX11_street_85 (hL 11 0 46 (by decide) rfl) rfl b13 rfl (v2 := (0 : Int32)) ?_
    obtain ⟨g14, hg14, h⟩ := d_lt_some h
    refine u_mem (σ2 := (upM σ 11 0 g14)) (by rw [hg14]) ?_
    refine u_aload_n (pc := 86) F dX11_street_86 0 rfl rfl ?_
    refine u_getA (pc := 87) F dX11_street_87 (hL 11 0 0 (by decide) rfl) ck_11 fl_11_95 rfl (by decide) (by decide) ?_
    refine u_iconst (v := 1) (pc := 90) F dX11_street_90 (by decide) ?_
    refine u_iconst (v := 0) (pc := 91) F dX11_street_91 (by decide) ?_
    obtain ⟨b15, h⟩ := d_ab_some h
    refine u_astZ1 (pc := 92) F dX11_street_92 (hL 11 0 46 (by decide) rfl) rfl b15 rfl (v2 := (0 : Int32)) ?_
    obtain ⟨g16, hg16, h⟩ := d_lt_some h
    refine u_mem (σ2 := (upM σ 11 0 g16)) (by rw [hg16]) ?_
    refine u_aload_n (pc := 93) F dX11_street_93 0 rfl rfl ?_
    refine u_get1 (pc := 94) F dX11_street_94 (hL 11 0 0 (by decide) rfl) ck_11 fl_11_102 rfl (by decide) ?_
    have h1 := Option.some.inj h
    obtain ⟨hj0, hr0⟩ := Prod.mk.inj h1
    subst hj0
    subst hr0
    exact hR _ _ rfl dX11_street_97
  · rw [if_neg c8] at h
    refine u_bipush (v := -10) (pc := 55) F dX11_street_55 (by decide) ?_
    refine u_iload_n (pc := 57) F dX11_street_57 1 rfl rfl ?_
    refine u_isub (pc := 58) F dX11_street_58 ?_
    have h1 := Option.some.inj h
    obtain ⟨hj0, hr0⟩ := Prod.mk.inj h1
    subst hj0
    subst hr0
    exact hR _ _ rfl dX11_street_59
set_option maxHeartbeats 4000000 in
set_option maxRecDepth 100000 in
theorem wX11_street_27 (Y : Dy) (G : G0) (hL : Im G) (σ : Mem) (F : Fx Y G cX11_street RX11 6) (hY : Y.2.2.2.2.2.2.2.2.2.2.2.1 = 2) (r : Int32) (mo' : Grp) (hR : ∀ (pc : Nat) (lv : List (Nat × Value)), narrow .int (.int r) = .int r → decode cX11_street pc = .ok (.ireturn, 1) → U Y G (upM σ 11 0 (mo')) pc lv [.int r]) :
    ∀ (fu : Nat) (mo : Grp) (x1 : Int32), fX11_street_27 fu mo x1 = some (r, mo') → U Y G (upM σ 11 0 mo) 27 [(0, .ref (adr G (11, 0, 0))), (1, .int x1)] [] := by
  intro fu
  induction fu with
  | zero =>
    intro mo x1 h
    rw [fX11_street_27] at h
    cases h
  | succ fu ih =>
    intro mo x1 h
    rw [fX11_street_27] at h
    refine u_iload_n (pc := 27) F dX11_street_27 1 rfl rfl ?_
    refine u_if_ne (pc := 28) F 46 dX11_street_28 (by decide) (fun c6 => ?_) (fun c6 => ?_)
    · rw [if_neg c6] at h
      exact wX11_street_46 Y G hL σ F hY r mo' hR mo x1 h
    · rw [if_pos c6] at h
      refine u_aload_n (pc := 31) F dX11_street_31 0 rfl rfl ?_
      obtain ⟨q17, hq17, h⟩ := d_bd_some h
      refine u_calli (pc := 32) F (As := []) (c_X11_here G hL (upM σ 11 0 mo) mo (upM_same _ _ _ _) q17.1 q17.2 hq17) yv_X11_here ml_11_119 (hL 11 0 0 (by decide) rfl) rfl (by decide) rfl rfl (Nat.le_of_ble_eq_true rfl) dX11_street_32 ?_
      refine u_mem (σ2 := (upM σ 11 0 q17.2)) (by first | (rw [upM_upM]; done) | (rw [upM_mid _ _ _ _ (by decide)]; done) | (rw [upM_mid _ _ _ _ (by decide), upM_upM]; done) | (rw [upM_mid _ _ _ _ (by decide), upM_mid _ _ _ _ (by decide)]; done)) ?_
      refine u_if_lt (pc := 35) F 46 dX11_street_35 (by decide) (fun c18 => ?_) (fun c18 => ?_)
      · rw [if_pos c18] at h
        exact wX11_street_46 Y G hL σ F hY r mo' hR q17.2 x1 h
      · rw [if_neg c18] at h
        refine u_aload_n (pc := 38) F dX11_street_38 0 rfl rfl ?_
        obtain ⟨q19, hq19, h⟩ := d_bd_some h
        refine u_calli (pc := 39) F (As := []) (c_X11_takeClause G hL (upM σ 11 0 q17.2) q17.2 (upM_same _ _ _ _) q19.1 q19.2 hq19) yv_X11_takeClause ml_11_176 (hL 11 0 0 (by decide) rfl) rfl (by decide) rfl rfl (Nat.le_of_ble_eq_true rfl) dX11_street_39 ?_
        refine u_mem (σ2 := (upM σ 11 0 q19.2)) (by first | (rw [upM_upM]; done) | (rw [upM_mid _ _ _ _ (by decide)]; done) | (rw [upM_mid _ _ _ _ (by decide), upM_upM]; done) | (rw [upM_mid _ _ _ _ (by decide), upM_mid _ _ _ _ (by decide)]; done)) ?_
        refine u_istore_n (lv' := [(1, .int q19.1), (0, .ref (adr G (11, 0, 0)))]) (pc := 42) F dX11_street_42 rfl hY (by decide) rfl ?_
        refine u_goto (pc := 43) F 27 dX11_street_43 (by decide) ?_
        refine u_lv (lv' := [(0, .ref (adr G (11, 0, 0))), (1, .int q19.1)]) [1, 0] rfl ?_
        exact ih q19.2 q19.1 h
set_option maxHeartbeats 4000000 in
set_option maxRecDepth 100000 in
theorem c_X11_street (G : G0) (hL : Im G) (σ : Mem) (mo : Grp) (e_mo : σ 11 0 = mo) (r : Int32) (mo' : Grp) (h : fX11_street mo = some (r, mo')) :
    CI G yX11_street cX11_street 2 .int 6 [.ref (adr G (11, 0, 0))] σ r (upM σ 11 0 (mo')) := by
  refine CI.of (by decide +kernel) (Nat.le_of_ble_eq_true rfl) (fun Y hY F hR => ?_)
  unfold fX11_street at h
  have F : Fx Y G cX11_street RX11 6 := F
  refine u_mem (σ2 := (upM σ 11 0 mo)) (by rw [← e_mo]; simp only [upM_self]) ?_
  refine u_lv (lv' := [(0, .ref (adr G (11, 0, 0)))]) [0] rfl ?_
  refine u_aload_n (pc := 0) F dX11_street_0 0 rfl rfl ?_
  refine u_iconst (v := -1) (pc := 1) F dX11_street_1 (by decide) ?_
  refine u_put1 (pc := 2) F dX11_street_2 (hL 11 0 0 (by decide) rfl) ck_11 fl_11_40 rfl (by decide) rfl (ty0 := .int) (by decide +kernel) rfl rfl ?_
  obtain ⟨g1, hg1, h⟩ := d_lt_some h
  refine u_mem (σ2 := (upM σ 11 0 g1)) (by rw [hg1]) ?_
  refine u_aload_n (pc := 5) F dX11_street_5 0 rfl rfl ?_
  refine u_iconst (v := 0) (pc := 6) F dX11_street_6 (by decide) ?_
  refine u_put1 (pc := 7) F dX11_street_7 (hL 11 0 0 (by decide) rfl) ck_11 fl_11_116 rfl (by decide) rfl (ty0 := .int) (by decide +kernel) rfl rfl ?_
  obtain ⟨g2, hg2, h⟩ := d_lt_some h
  refine u_mem (σ2 := (upM σ 11 0 g2)) (by rw [hg2]) ?_
  refine u_aload_n (pc := 10) F dX11_street_10 0 rfl rfl ?_
  refine u_iconst (v := 0) (pc := 11) F dX11_street_11 (by decide) ?_
  refine u_put1 (pc := 12) F dX11_street_12 (hL 11 0 0 (by decide) rfl) ck_11 fl_11_137 rfl (by decide) rfl (ty0 := .boolean) (by decide +kernel) rfl rfl ?_
  obtain ⟨g3, hg3, h⟩ := d_lt_some h
  refine u_mem (σ2 := (upM σ 11 0 g3)) (by rw [hg3]) ?_
  refine u_aload_n (pc := 15) F dX11_street_15 0 rfl rfl ?_
  refine u_iconst (v := 0) (pc := 16) F dX11_street_16 (by decide) ?_
  refine u_put1 (pc := 17) F dX11_street_17 (hL 11 0 0 (by decide) rfl) ck_11 fl_11_145 rfl (by decide) rfl (ty0 := .int) (by decide +kernel) rfl rfl ?_
  obtain ⟨g4, hg4, h⟩ := d_lt_some h
  refine u_mem (σ2 := (upM σ 11 0 g4)) (by rw [hg4]) ?_
  refine u_aload_n (pc := 20) F dX11_street_20 0 rfl rfl ?_
  refine u_iconst (v := 0) (pc := 21) F dX11_street_21 (by decide) ?_
  refine u_put1 (pc := 22) F dX11_street_22 (hL 11 0 0 (by decide) rfl) ck_11 fl_11_148 rfl (by decide) rfl (ty0 := .int) (by decide +kernel) rfl rfl ?_
  obtain ⟨g5, hg5, h⟩ := d_lt_some h
  refine u_mem (σ2 := (upM σ 11 0 g5)) (by rw [hg5]) ?_
  refine u_iconst (v := 0) (pc := 25) F dX11_street_25 (by decide) ?_
  refine u_istore_n (lv' := [(1, .int (0 : Int32)), (0, .ref (adr G (11, 0, 0)))]) (pc := 26) F dX11_street_26 rfl hY (by decide) rfl ?_
  refine u_lv (lv' := [(0, .ref (adr G (11, 0, 0))), (1, .int (0 : Int32))]) [1, 0] rfl ?_
  exact wX11_street_27 Y G hL σ F hY r mo' hR 1000 g5 (0 : Int32) h
/- RollingCodesModel.fault -/
def fX11_fault (mo : Grp) : Option (Int32) :=
    some (mo 0 17)
set_option maxHeartbeats 4000000 in
set_option maxRecDepth 100000 in
theorem c_X11_fault (G : G0) (hL : Im G) (σ : Mem) (mo : Grp) (e_mo : σ 11 0 = mo) (r : Int32) (h : fX11_fault mo = some r) :
    CI G yX11_fault cX11_fault 1 .int 1 [.ref (adr G (11, 0, 0))] σ r σ := by
  refine CI.of (by decide +kernel) (Nat.le_of_ble_eq_true rfl) (fun Y hY F hR => ?_)
  unfold fX11_fault at h
  have F : Fx Y G cX11_fault RX11 1 := F
  refine u_lv (lv' := [(0, .ref (adr G (11, 0, 0)))]) [0] rfl ?_
  refine u_aload_n (pc := 0) F dX11_fault_0 0 rfl rfl ?_
  refine u_get (v := mo 0 17) (pc := 1) F dX11_fault_1 (hL 11 0 0 (by decide) rfl) ck_11 fl_11_40 rfl (by decide) (congrFun (congrFun (show σ 11 0 = mo from e_mo) 0) 17) ?_
  have h1 := Option.some.inj h
  subst h1
  exact hR _ _ rfl dX11_fault_4
/- RollingCodesModel.codeOf -/
def fX11_codeOf (x0 : Int32) (x1 : Int32) : Option (Int32) :=
    some (jrem (((x0 * (61 : Int32)) + (x1 * (13 : Int32))) + (x0 * x1)) (509 : Int32))
set_option maxHeartbeats 4000000 in
set_option maxRecDepth 100000 in
theorem c_X11_codeOf (G : G0) (hL : Im G) (x0 : Int32) (x1 : Int32) (σ : Mem) (r : Int32) (h : fX11_codeOf x0 x1 = some r) :
    CI G yX11_codeOf cX11_codeOf 2 .int 1 [.int x0, .int x1] σ r σ := by
  refine CI.of (by decide +kernel) (Nat.le_of_ble_eq_true rfl) (fun Y hY F hR => ?_)
  unfold fX11_codeOf at h
  have F : Fx Y G cX11_codeOf RX11 1 := F
  refine u_lv (lv' := [(0, .int x0), (1, .int x1)]) [0, 1] rfl ?_
  refine u_iload_n (pc := 0) F dX11_codeOf_0 0 rfl rfl ?_
  refine u_bipush (v := 61) (pc := 1) F dX11_codeOf_1 (by decide) ?_
  refine u_imul (pc := 3) F dX11_codeOf_3 ?_
  refine u_iload_n (pc := 4) F dX11_codeOf_4 1 rfl rfl ?_
  refine u_bipush (v := 13) (pc := 5) F dX11_codeOf_5 (by decide) ?_
  refine u_imul (pc := 7) F dX11_codeOf_7 ?_
  refine u_iadd (pc := 8) F dX11_codeOf_8 ?_
  refine u_iload_n (pc := 9) F dX11_codeOf_9 0 rfl rfl ?_
  refine u_iload_n (pc := 10) F dX11_codeOf_10 1 rfl rfl ?_
  refine u_imul (pc := 11) F dX11_codeOf_11 ?_
  refine u_iadd (pc := 12) F dX11_codeOf_12 ?_
  refine u_sipush (v := 509) (pc := 13) F dX11_codeOf_13 (by decide) ?_
  refine u_irem (pc := 16) F dX11_codeOf_16 (by decide) ?_
  have h1 := Option.some.inj h
  subst h1
  exact hR _ _ rfl dX11_codeOf_17
