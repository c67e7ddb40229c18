/- RollingCodes$Plan.isFob -/
def fX4_isFob (pl : Grp) (x1 : Int32) : Option (Int32) :=
    if x1 < 0 then (some (0 : Int32)) else (if x1 < (pl 0 4) then (some (1 : Int32)) else (some (0 : Int32)))
set_option maxHeartbeats 4000000 in
set_option maxRecDepth 100000 in
theorem c_X4_isFob (G : G0) (hL : In G) (k : Nat) (h_k : k < 2) (x1 : Int32) (σ : Mem) (pl : Grp) (e_pl : σ 4 k = pl) (r : Int32) (h : fX4_isFob pl x1 = some r) :
    CI G yX4_isFob cX4_isFob 2 .boolean 1 [.ref (adr G (4, k, 0)), .int x1] σ r σ := by
  refine CI.of (by decide +kernel) (Nat.le_of_ble_eq_true rfl) (fun Y hY F hR => ?_)
  unfold fX4_isFob at h
  have F : Fx Y G cX4_isFob RX4 1 := F
  refine u_lv (lv' := [(0, .ref (adr G (4, k, 0))), (1, .int x1)]) [0, 1] rfl ?_
  refine u_iload_n (pc := 0) F dX4_isFob_0 1 rfl rfl ?_
  refine u_if_lt (pc := 1) F 16 dX4_isFob_1 (by decide) (fun c1 => ?_) (fun c1 => ?_)
  · rw [if_pos c1] at h
    refine u_iconst (v := 0) (pc := 16) F dX4_isFob_16 (by decide) ?_
    have h1 := Option.some.inj h
    subst h1
    exact hR _ _ rfl dX4_isFob_17
  · rw [if_neg c1] at h
    refine u_iload_n (pc := 4) F dX4_isFob_4 1 rfl rfl ?_
    refine u_aload_n (pc := 5) F dX4_isFob_5 0 rfl rfl ?_
    refine u_get (v := pl 0 4) (pc := 6) F dX4_isFob_6 (hL 4 k 0 h_k rfl) ck_4 fl_4_50 rfl (by decide) (congrFun (congrFun (show σ 4 k = pl from e_pl) 0) 4) ?_
    refine u_icmp_ge (pc := 9) F 16 dX4_isFob_9 (by decide) (fun c2 => ?_) (fun c2 => ?_)
    · rw [if_neg c2] at h
      refine u_iconst (v := 0) (pc := 16) F dX4_isFob_16 (by decide) ?_
      have h1 := Option.some.inj h
      subst h1
      exact hR _ _ rfl dX4_isFob_17
    · rw [if_pos c2] at h
      refine u_iconst (v := 1) (pc := 12) F dX4_isFob_12 (by decide) ?_
      refine u_goto (pc := 13) F 17 dX4_isFob_13 (by decide) ?_
      have h1 := Option.some.inj h
      subst h1
      exact hR _ _ rfl dX4_isFob_17
/- RollingCodes$Plan.sendings -/
def fX4_sendings (pl : Grp) (x1 : Int32) : Option (Int32) :=
    d_ab x1 5 <| if (pl 9 x1.toNatClampNeg) = (1 : Int32) then (some (2 : Int32)) else (some (1 : Int32))
set_option maxHeartbeats 4000000 in
set_option maxRecDepth 100000 in
theorem c_X4_sendings (G : G0) (hL : In G) (k : Nat) (h_k : k < 2) (x1 : Int32) (σ : Mem) (pl : Grp) (e_pl : σ 4 k = pl) (r : Int32) (h : fX4_sendings pl x1 = some r) :
    CI G yX4_sendings cX4_sendings 2 .int 1 [.ref (adr G (4, k, 0)), .int x1] σ r σ := by
  refine CI.of (by decide +kernel) (Nat.le_of_ble_eq_true rfl) (fun Y hY F hR => ?_)
  unfold fX4_sendings at h
  have F : Fx Y G cX4_sendings RX4 1 := F
  refine u_lv (lv' := [(0, .ref (adr G (4, k, 0))), (1, .int x1)]) [0, 1] rfl ?_
  refine u_aload_n (pc := 0) F dX4_sendings_0 0 rfl rfl ?_
  refine u_getA (pc := 1) F dX4_sendings_1 (hL 4 k 0 h_k rfl) ck_4 fl_4_21 rfl (by decide) (by decide) ?_
  refine u_iload_n (pc := 4) F dX4_sendings_4 1 rfl rfl ?_
  obtain ⟨b1, h⟩ := d_ab_some h
  refine u_aldI (v := pl 9 x1.toNatClampNeg) (pc := 5) F dX4_sendings_5 (hL 4 k 9 h_k rfl) rfl b1 (congrFun (congrFun (show σ 4 k = pl from e_pl) 9) _) ?_
  refine u_iconst (v := 1) (pc := 6) F dX4_sendings_6 (by decide) ?_
  refine u_icmp_ne (pc := 7) F 14 dX4_sendings_7 (by decide) (fun c2 => ?_) (fun c2 => ?_)
  · rw [if_neg c2] at h
    refine u_iconst (v := 1) (pc := 14) F dX4_sendings_14 (by decide) ?_
    have h1 := Option.some.inj h
    subst h1
    exact hR _ _ rfl dX4_sendings_15
  · rw [if_pos c2] at h
    refine u_iconst (v := 2) (pc := 10) F dX4_sendings_10 (by decide) ?_
    refine u_goto (pc := 11) F 15 dX4_sendings_11 (by decide) ?_
    have h1 := Option.some.inj h
    subst h1
    exact hR _ _ rfl dX4_sendings_15
/- RollingCodes$Plan.stride -/
def fX4_stride (pl : Grp) (x1 : Int32) : Option (Int32) :=
    d_ab x1 5 <| if (pl 9 x1.toNatClampNeg) = (3 : Int32) then (some (0 : Int32)) else (some (1 : Int32))
set_option maxHeartbeats 4000000 in
set_option maxRecDepth 100000 in
theorem c_X4_stride (G : G0) (hL : In G) (k : Nat) (h_k : k < 2) (x1 : Int32) (σ : Mem) (pl : Grp) (e_pl : σ 4 k = pl) (r : Int32) (h : fX4_stride pl x1 = some r) :
    CI G yX4_stride cX4_stride 2 .int 1 [.ref (adr G (4, k, 0)), .int x1] σ r σ := by
  refine CI.of (by decide +kernel) (Nat.le_of_ble_eq_true rfl) (fun Y hY F hR => ?_)
  unfold fX4_stride at h
  have F : Fx Y G cX4_stride RX4 1 := F
  refine u_lv (lv' := [(0, .ref (adr G (4, k, 0))), (1, .int x1)]) [0, 1] rfl ?_
  refine u_aload_n (pc := 0) F dX4_stride_0 0 rfl rfl ?_
  refine u_getA (pc := 1) F dX4_stride_1 (hL 4 k 0 h_k rfl) ck_4 fl_4_21 rfl (by decide) (by decide) ?_
  refine u_iload_n (pc := 4) F dX4_stride_4 1 rfl rfl ?_
  obtain ⟨b1, h⟩ := d_ab_some h
  refine u_aldI (v := pl 9 x1.toNatClampNeg) (pc := 5) F dX4_stride_5 (hL 4 k 9 h_k rfl) rfl b1 (congrFun (congrFun (show σ 4 k = pl from e_pl) 9) _) ?_
  refine u_iconst (v := 3) (pc := 6) F dX4_stride_6 (by decide) ?_
  refine u_icmp_ne (pc := 7) F 14 dX4_stride_7 (by decide) (fun c2 => ?_) (fun c2 => ?_)
  · rw [if_neg c2] at h
    refine u_iconst (v := 1) (pc := 14) F dX4_stride_14 (by decide) ?_
    have h1 := Option.some.inj h
    subst h1
    exact hR _ _ rfl dX4_stride_15
  · rw [if_pos c2] at h
    refine u_iconst (v := 0) (pc := 10) F dX4_stride_10 (by decide) ?_
    refine u_goto (pc := 11) F 15 dX4_stride_11 (by decide) ?_
    have h1 := Option.some.inj h
    subst h1
    exact hR _ _ rfl dX4_stride_15
/- RollingCodes.codeOf -/
def fX10_codeOf (x0 : Int32) (x1 : Int32) : Option (Int32) :=
    some (jrem (((x0 * (61 : Int32)) + (x1 * (13 : Int32))) + (x0 * x1)) (509 : Int32))
set_option maxHeartbeats 4000000 in
set_option maxRecDepth 100000 in
theorem c_X10_codeOf (G : G0) (hL : In G) (x0 : Int32) (x1 : Int32) (σ : Mem) (r : Int32) (h : fX10_codeOf x0 x1 = some r) :
    CI G yX10_codeOf cX10_codeOf 2 .int 1 [.int x0, .int x1] σ r σ := by
  refine CI.of (by decide +kernel) (Nat.le_of_ble_eq_true rfl) (fun Y hY F hR => ?_)
  unfold fX10_codeOf at h
  have F : Fx Y G cX10_codeOf RX10 1 := F
  refine u_lv (lv' := [(0, .int x0), (1, .int x1)]) [0, 1] rfl ?_
  refine u_iload_n (pc := 0) F dX10_codeOf_0 0 rfl rfl ?_
  refine u_bipush (v := 61) (pc := 1) F dX10_codeOf_1 (by decide) ?_
  refine u_imul (pc := 3) F dX10_codeOf_3 ?_
  refine u_iload_n (pc := 4) F dX10_codeOf_4 1 rfl rfl ?_
  refine u_bipush (v := 13) (pc := 5) F dX10_codeOf_5 (by decide) ?_
  refine u_imul (pc := 7) F dX10_codeOf_7 ?_
  refine u_iadd (pc := 8) F dX10_codeOf_8 ?_
  refine u_iload_n (pc := 9) F dX10_codeOf_9 0 rfl rfl ?_
  refine u_iload_n (pc := 10) F dX10_codeOf_10 1 rfl rfl ?_
  refine u_imul (pc := 11) F dX10_codeOf_11 ?_
  refine u_iadd (pc := 12) F dX10_codeOf_12 ?_
  refine u_sipush (v := 509) (pc := 13) F dX10_codeOf_13 (by decide) ?_
  refine u_irem (pc := 16) F dX10_codeOf_16 (by decide) ?_
  have h1 := Option.some.inj h
  subst h1
  exact hR _ _ rfl dX10_codeOf_17
/- RollingCodes$Plan.mostAhead -/
def fX4_mostAhead (pl : Grp) (x1 : Int32) : Option (Int32) :=
    d_ab x1 4 <| if (pl 6 x1.toNatClampNeg) = (1 : Int32) then (some (1 : Int32)) else (d_ab x1 4 <| some (pl 8 x1.toNatClampNeg))
set_option maxHeartbeats 4000000 in
set_option maxRecDepth 100000 in
theorem c_X4_mostAhead (G : G0) (hL : In G) (k : Nat) (h_k : k < 2) (x1 : Int32) (σ : Mem) (pl : Grp) (e_pl : σ 4 k = pl) (r : Int32) (h : fX4_mostAhead pl x1 = some r) :
    CI G yX4_mostAhead cX4_mostAhead 2 .int 1 [.ref (adr G (4, k, 0)), .int x1] σ r σ := by
  refine CI.of (by decide +kernel) (Nat.le_of_ble_eq_true rfl) (fun Y hY F hR => ?_)
  unfold fX4_mostAhead at h
  have F : Fx Y G cX4_mostAhead RX4 1 := F
  refine u_lv (lv' := [(0, .ref (adr G (4, k, 0))), (1, .int x1)]) [0, 1] rfl ?_
  refine u_aload_n (pc := 0) F dX4_mostAhead_0 0 rfl rfl ?_
  refine u_getA (pc := 1) F dX4_mostAhead_1 (hL 4 k 0 h_k rfl) ck_4 fl_4_9 rfl (by decide) (by decide) ?_
  refine u_iload_n (pc := 4) F dX4_mostAhead_4 1 rfl rfl ?_
  obtain ⟨b1, h⟩ := d_ab_some h
  refine u_aldI (v := pl 6 x1.toNatClampNeg) (pc := 5) F dX4_mostAhead_5 (hL 4 k 6 h_k rfl) rfl b1 (congrFun (congrFun (show σ 4 k = pl from e_pl) 6) _) ?_
  refine u_iconst (v := 1) (pc := 6) F dX4_mostAhead_6 (by decide) ?_
  refine u_icmp_ne (pc := 7) F 14 dX4_mostAhead_7 (by decide) (fun c2 => ?_) (fun c2 => ?_)
  · rw [if_neg c2] at h
    refine u_aload_n (pc := 14) F dX4_mostAhead_14 0 rfl rfl ?_
    refine u_getA (pc := 15) F dX4_mostAhead_15 (hL 4 k 0 h_k rfl) ck_4 fl_4_18 rfl (by decide) (by decide) ?_
    refine u_iload_n (pc := 18) F dX4_mostAhead_18 1 rfl rfl ?_
    obtain ⟨b3, h⟩ := d_ab_some h
    refine u_aldI (v := pl 8 x1.toNatClampNeg) (pc := 19) F dX4_mostAhead_19 (hL 4 k 8 h_k rfl) rfl b3 (congrFun (congrFun (show σ 4 k = pl from e_pl) 8) _) ?_
    have h1 := Option.some.inj h
    subst h1
    exact hR _ _ rfl dX4_mostAhead_20
  · rw [if_pos c2] at h
    refine u_iconst (v := 1) (pc := 10) F dX4_mostAhead_10 (by decide) ?_
    refine u_goto (pc := 11) F 20 dX4_mostAhead_11 (by decide) ?_
    have h1 := Option.some.inj h
    subst h1
    exact hR _ _ rfl dX4_mostAhead_20
/- RollingCodes$Plan.leastAhead -/
def fX4_leastAhead (pl : Grp) (x1 : Int32) : Option (Int32) :=
    d_ab x1 4 <| if (pl 6 x1.toNatClampNeg) = (2 : Int32) then (some (0 : Int32)) else (some (1 : Int32))
set_option maxHeartbeats 4000000 in
set_option maxRecDepth 100000 in
theorem c_X4_leastAhead (G : G0) (hL : In G) (k : Nat) (h_k : k < 2) (x1 : Int32) (σ : Mem) (pl : Grp) (e_pl : σ 4 k = pl) (r : Int32) (h : fX4_leastAhead pl x1 = some r) :
    CI G yX4_leastAhead cX4_leastAhead 2 .int 1 [.ref (adr G (4, k, 0)), .int x1] σ r σ := by
  refine CI.of (by decide +kernel) (Nat.le_of_ble_eq_true rfl) (fun Y hY F hR => ?_)
  unfold fX4_leastAhead at h
  have F : Fx Y G cX4_leastAhead RX4 1 := F
  refine u_lv (lv' := [(0, .ref (adr G (4, k, 0))), (1, .int x1)]) [0, 1] rfl ?_
  refine u_aload_n (pc := 0) F dX4_leastAhead_0 0 rfl rfl ?_
  refine u_getA (pc := 1) F dX4_leastAhead_1 (hL 4 k 0 h_k rfl) ck_4 fl_4_9 rfl (by decide) (by decide) ?_
  refine u_iload_n (pc := 4) F dX4_leastAhead_4 1 rfl rfl ?_
  obtain ⟨b1, h⟩ := d_ab_some h
  refine u_aldI (v := pl 6 x1.toNatClampNeg) (pc := 5) F dX4_leastAhead_5 (hL 4 k 6 h_k rfl) rfl b1 (congrFun (congrFun (show σ 4 k = pl from e_pl) 6) _) ?_
  refine u_iconst (v := 2) (pc := 6) F dX4_leastAhead_6 (by decide) ?_
  refine u_icmp_ne (pc := 7) F 14 dX4_leastAhead_7 (by decide) (fun c2 => ?_) (fun c2 => ?_)
  · rw [if_neg c2] at h
    refine u_iconst (v := 1) (pc := 14) F dX4_leastAhead_14 (by decide) ?_
    have h1 := Option.some.inj h
    subst h1
    exact hR _ _ rfl dX4_leastAhead_15
  · rw [if_pos c2] at h
    refine u_iconst (v := 0) (pc := 10) F dX4_leastAhead_10 (by decide) ?_
    refine u_goto (pc := 11) F 15 dX4_leastAhead_11 (by decide) ?_
    have h1 := Option.some.inj h
    subst h1
    exact hR _ _ rfl dX4_leastAhead_15
/- RollingCodes$Plan.isGate -/
def fX4_isGate (pl : Grp) (x1 : Int32) : Option (Int32) :=
    if x1 < 0 then (some (0 : Int32)) else (if x1 < (pl 0 3) then (some (1 : Int32)) else (some (0 : Int32)))
set_option maxHeartbeats 4000000 in
set_option maxRecDepth 100000 in
theorem c_X4_isGate (G : G0) (hL : In G) (k : Nat) (h_k : k < 2) (x1 : Int32) (σ : Mem) (pl : Grp) (e_pl : σ 4 k = pl) (r : Int32) (h : fX4_isGate pl x1 = some r) :
    CI G yX4_isGate cX4_isGate 2 .boolean 1 [.ref (adr G (4, k, 0)), .int x1] σ r σ := by
  refine CI.of (by decide +kernel) (Nat.le_of_ble_eq_true rfl) (fun Y hY F hR => ?_)
  unfold fX4_isGate at h
  have F : Fx Y G cX4_isGate RX4 1 := F
  refine u_lv (lv' := [(0, .ref (adr G (4, k, 0))), (1, .int x1)]) [0, 1] rfl ?_
  refine u_iload_n (pc := 0) F dX4_isGate_0 1 rfl rfl ?_
  refine u_if_lt (pc := 1) F 16 dX4_isGate_1 (by decide) (fun c1 => ?_) (fun c1 => ?_)
  · rw [if_pos c1] at h
    refine u_iconst (v := 0) (pc := 16) F dX4_isGate_16 (by decide) ?_
    have h1 := Option.some.inj h
    subst h1
    exact hR _ _ rfl dX4_isGate_17
  · rw [if_neg c1] at h
    refine u_iload_n (pc := 4) F dX4_isGate_4 1 rfl rfl ?_
    refine u_aload_n (pc := 5) F dX4_isGate_5 0 rfl rfl ?_
    refine u_get (v := pl 0 3) (pc := 6) F dX4_isGate_6 (hL 4 k 0 h_k rfl) ck_4 fl_4_47 rfl (by decide) (congrFun (congrFun (show σ 4 k = pl from e_pl) 0) 3) ?_
    refine u_icmp_ge (pc := 9) F 16 dX4_isGate_9 (by decide) (fun c2 => ?_) (fun c2 => ?_)
    · rw [if_neg c2] at h
      refine u_iconst (v := 0) (pc := 16) F dX4_isGate_16 (by decide) ?_
      have h1 := Option.some.inj h
      subst h1
      exact hR _ _ rfl dX4_isGate_17
    · rw [if_pos c2] at h
      refine u_iconst (v := 1) (pc := 12) F dX4_isGate_12 (by decide) ?_
      refine u_goto (pc := 13) F 17 dX4_isGate_13 (by decide) ?_
      have h1 := Option.some.inj h
      subst h1
      exact hR _ _ rfl dX4_isGate_17
/- RollingCodes.isPlace -/
def fX10_isPlace (x0 : Int32) : Option (Int32) :=
    if x0 < 0 then (some (0 : Int32)) else (if x0 < (10 : Int32) then (some (1 : Int32)) else (some (0 : Int32)))
set_option maxHeartbeats 4000000 in
set_option maxRecDepth 100000 in
theorem c_X10_isPlace (G : G0) (hL : In G) (x0 : Int32) (σ : Mem) (r : Int32) (h : fX10_isPlace x0 = some r) :
    CI G yX10_isPlace cX10_isPlace 1 .boolean 1 [.int x0] σ r σ := by
  refine CI.of (by decide +kernel) (Nat.le_of_ble_eq_true rfl) (fun Y hY F hR => ?_)
  unfold fX10_isPlace at h
  have F : Fx Y G cX10_isPlace RX10 1 := F
  refine u_lv (lv' := [(0, .int x0)]) [0] rfl ?_
  refine u_iload_n (pc := 0) F dX10_isPlace_0 0 rfl rfl ?_
  refine u_if_lt (pc := 1) F 14 dX10_isPlace_1 (by decide) (fun c1 => ?_) (fun c1 => ?_)
  · rw [if_pos c1] at h
    refine u_iconst (v := 0) (pc := 14) F dX10_isPlace_14 (by decide) ?_
    have h1 := Option.some.inj h
    subst h1
    exact hR _ _ rfl dX10_isPlace_15
  · rw [if_neg c1] at h
    refine u_iload_n (pc := 4) F dX10_isPlace_4 0 rfl rfl ?_
    refine u_bipush (v := 10) (pc := 5) F dX10_isPlace_5 (by decide) ?_
    refine u_icmp_ge (pc := 7) F 14 dX10_isPlace_7 (by decide) (fun c2 => ?_) (fun c2 => ?_)
    · rw [if_neg c2] at h
      refine u_iconst (v := 0) (pc := 14) F dX10_isPlace_14 (by decide) ?_
      have h1 := Option.some.inj h
      subst h1
      exact hR _ _ rfl dX10_isPlace_15
    · rw [if_pos c2] at h
      refine u_iconst (v := 1) (pc := 10) F dX10_isPlace_10 (by decide) ?_
      refine u_goto (pc := 11) F 15 dX10_isPlace_11 (by decide) ?_
      have h1 := Option.some.inj h
      subst h1
      exact hR _ _ rfl dX10_isPlace_15
/- RollingCodes$Draws.next -/
def fX1_next (dr : Grp) (x1 : Int32) : Option (Int32 × Grp) :=
    if x1 ≤ 0 then (some ((0 : Int32), dr)) else (d_lt (wr dr 0 0 ((((((dr 0 0).toInt64) * (1103515245 : Int64)) + (12345 : Int64)) &&& (2147483647 : Int64)).toInt32)) fun g2 => d_nz x1 <| some (jrem ((g2 0 0) / (65536 : Int32)) x1, g2))
set_option maxHeartbeats 4000000 in
set_option maxRecDepth 100000 in
theorem c_X1_next (G : G0) (hL : In G) (x1 : Int32) (σ : Mem) (dr : Grp) (e_dr : σ 1 0 = dr) (r : Int32) (dr' : Grp) (h : fX1_next dr x1 = some (r, dr')) :
    CI G yX1_next cX1_next 2 .int 1 [.ref (adr G (1, 0, 0)), .int x1] σ r (upM σ 1 0 (dr')) := by
  refine CI.of (by decide +kernel) (Nat.le_of_ble_eq_true rfl) (fun Y hY F hR => ?_)
  unfold fX1_next at h
  have F : Fx Y G cX1_next RX1 1 := F
  refine u_mem (σ2 := (upM σ 1 0 dr)) (by rw [← e_dr]; simp only [upM_self]) ?_
  refine u_lv (lv' := [(0, .ref (adr G (1, 0, 0))), (1, .int x1)]) [0, 1] rfl ?_
  refine u_iload_n (pc := 0) F dX1_next_0 1 rfl rfl ?_
  refine u_if_gt (pc := 1) F 6 dX1_next_1 (by decide) (fun c1 => ?_) (fun c1 => ?_)
  · rw [if_neg c1] at h
    refine u_aload_n (pc := 6) F dX1_next_6 0 rfl rfl ?_
    refine u_aload_n (pc := 7) F dX1_next_7 0 rfl rfl ?_
    refine u_get1 (pc := 8) F dX1_next_8 (hL 1 0 0 (by decide) rfl) ck_1 fl_1_7 rfl (by decide) ?_
    refine u_i2l (pc := 11) F dX1_next_11 ?_
    refine u_ldc2 (v := 1103515245) (pc := 12) F dX1_next_12 kc_1_13 ?_
    refine u_lmul (pc := 15) F dX1_next_15 ?_
    refine u_ldc2 (v := 12345) (pc := 16) F dX1_next_16 kc_1_15 ?_
    refine u_ladd (pc := 19) F dX1_next_19 ?_
    refine u_ldc2 (v := 2147483647) (pc := 20) F dX1_next_20 kc_1_17 ?_
    refine u_land (pc := 23) F dX1_next_23 ?_
    refine u_l2i (pc := 24) F dX1_next_24 ?_
    refine u_put1 (pc := 25) F dX1_next_25 (hL 1 0 0 (by decide) rfl) ck_1 fl_1_7 rfl (by decide) rfl (ty0 := .int) (by decide +kernel) rfl rfl ?_
    obtain ⟨g2, hg2, h⟩ := d_lt_some h
    refine u_mem (σ2 := (upM σ 1 0 g2)) (by rw [hg2]) ?_
    refine u_aload_n (pc := 28) F dX1_next_28 0 rfl rfl ?_
    refine u_get1 (pc := 29) F dX1_next_29 (hL 1 0 0 (by decide) rfl) ck_1 fl_1_7 rfl (by decide) ?_
    refine u_ldc (v := 65536) (pc := 32) F dX1_next_32 kc_1_19 ?_
    refine u_idiv (pc := 34) F dX1_next_34 (by decide) ?_
    refine u_iload_n (pc := 35) F dX1_next_35 1 rfl rfl ?_
    obtain ⟨c3, h⟩ := d_nz_some h
    refine u_irem (pc := 36) F dX1_next_36 c3 ?_
    have h1 := Option.some.inj h
    obtain ⟨hj0, hr0⟩ := Prod.mk.inj h1
    subst hj0
    subst hr0
    exact hR _ _ rfl dX1_next_37
  · rw [if_pos c1] at h
    refine u_iconst (v := 0) (pc := 4) F dX1_next_4 (by decide) ?_
    have h1 := Option.some.inj h
    obtain ⟨hj0, hr0⟩ := Prod.mk.inj h1
    subst hj0
    subst hr0
    exact hR _ _ rfl dX1_next_5
/- RollingCodes.isCode -/
def fX10_isCode (x0 : Int32) : Option (Int32) :=
    if x0 < 0 then (some (0 : Int32)) else (if x0 < (509 : Int32) then (some (1 : Int32)) else (some (0 : Int32)))
set_option maxHeartbeats 4000000 in
set_option maxRecDepth 100000 in
theorem c_X10_isCode (G : G0) (hL : In G) (x0 : Int32) (σ : Mem) (r : Int32) (h : fX10_isCode x0 = some r) :
    CI G yX10_isCode cX10_isCode 1 .boolean 1 [.int x0] σ r σ := by
  refine CI.of (by decide +kernel) (Nat.le_of_ble_eq_true rfl) (fun Y hY F hR => ?_)
  unfold fX10_isCode at h
  have F : Fx Y G cX10_isCode RX10 1 := F
  refine u_lv (lv' := [(0, .int x0)]) [0] rfl ?_
  refine u_iload_n (pc := 0) F dX10_isCode_0 0 rfl rfl ?_
  refine u_if_lt (pc := 1) F 15 dX10_isCode_1 (by decide) (fun c1 => ?_) (fun c1 => ?_)
  · rw [if_pos c1] at h
    refine u_iconst (v := 0) (pc := 15) F dX10_isCode_15 (by decide) ?_
    have h1 := Option.some.inj h
    subst h1
    exact hR _ _ rfl dX10_isCode_16
  · rw [if_neg c1] at h
    refine u_iload_n (pc := 4) F dX10_isCode_4 0 rfl rfl ?_
    refine u_sipush (v := 509) (pc := 5) F dX10_isCode_5 (by decide) ?_
    refine u_icmp_ge (pc := 8) F 15 dX10_isCode_8 (by decide) (fun c2 => ?_) (fun c2 => ?_)
    · rw [if_neg c2] at h
      refine u_iconst (v := 0) (pc := 15) F dX10_isCode_15 (by decide) ?_
      have h1 := Option.some.inj h
      subst h1
      exact hR _ _ rfl dX10_isCode_16
    · rw [if_pos c2] at h
      refine u_iconst (v := 1) (pc := 11) F dX10_isCode_11 (by decide) ?_
      refine u_goto (pc := 12) F 16 dX10_isCode_12 (by decide) ?_
      have h1 := Option.some.inj h
      subst h1
      exact hR _ _ rfl dX10_isCode_16
/- RollingCodes$Seen.add -/
def fX8_add_13  : Nat → Grp → Int32 → Int32 → Int32 → Option (Int32 × Grp)
  | 0, _, _, _, _ => none
  | fu + 1, se, x1, x2, x3 =>
    if x3 < (256 : Int32) then (d_ab x3 256 <| d_bd (fX10_codeOf x3 x1) fun q5 => d_lt (if q5 = x2 then (1 : Int32) else (0 : Int32)) fun v6 => d_ab x3 256 <| d_zb ((se 1 x3.toNatClampNeg) &&& v6) <| d_lt (wr se 1 x3.toNatClampNeg ((se 1 x3.toNatClampNeg) &&& v6)) fun g10 => d_lt (x3 + (1 : Int32)) fun v11 => fX8_add_13 fu g10 x1 x2 v11) else (d_lt (wr se 0 2 ((se 0 2) + (1 : Int32))) fun g3 => some ((1 : Int32), g3))
def fX8_add (se : Grp) (x1 : Int32) (x2 : Int32) : Option (Int32 × Grp) :=
    if (se 0 2) < (6 : Int32) then (fX8_add_13 1000 se x1 x2 (0 : Int32)) else (some ((0 : Int32), se))
set_option maxHeartbeats 4000000 in
set_option maxRecDepth 100000 in
theorem wX8_add_13 (Y : Dy) (G : G0) (hL : In G) (σ : Mem) (F : Fx Y G cX8_add RX8 2) (hY : Y.2.2.2.2.2.2.2.2.2.2.2.1 = 4) (r : Int32) (se' : Grp) (hR : ∀ (pc : Nat) (lv : List (Nat × Value)), narrow .boolean (.int r) = .int r → decode cX8_add pc = .ok (.ireturn, 1) → U Y G (upM σ 8 0 (se')) pc lv [.int r]) :
    ∀ (fu : Nat) (se : Grp) (x1 : Int32) (x2 : Int32) (x3 : Int32), fX8_add_13 fu se x1 x2 x3 = some (r, se') → U Y G (upM σ 8 0 se) 13 [(0, .ref (adr G (8, 0, 0))), (1, .int x1), (2, .int x2), (3, .int x3)] [] := by
  intro fu
  induction fu with
  | zero =>
    intro se x1 x2 x3 h
    rw [fX8_add_13] at h
    cases h
  | succ fu ih =>
    intro se x1 x2 x3 h
    rw [fX8_add_13] at h
    refine u_iload_n (pc := 13) F dX8_add_13 3 rfl rfl ?_
    refine u_sipush (v := 256) (pc := 14) F dX8_add_14 (by decide) ?_
    refine u_icmp_ge (pc := 17) F 49 dX8_add_17 (by decide) (fun c2 => ?_) (fun c2 => ?_)
    · rw [if_neg c2] at h
      refine u_aload_n (pc := 49) F dX8_add_49 0 rfl rfl ?_
      refine u_dup (pc := 50) F dX8_add_50 rfl ?_
      refine u_get1 (pc := 51) F dX8_add_51 (hL 8 0 0 (by decide) rfl) ck_8 fl_8_19 rfl (by decide) ?_
      refine u_iconst (v := 1) (pc := 54) F dX8_add_54 (by decide) ?_
      refine u_iadd (pc := 55) F dX8_add_55 ?_
      refine u_put1 (pc := 56) F dX8_add_56 (hL 8 0 0 (by decide) rfl) ck_8 fl_8_19 rfl (by decide) rfl (ty0 := .int) (by decide +kernel) rfl rfl ?_
      obtain ⟨g3, hg3, h⟩ := d_lt_some h
      refine u_mem (σ2 := (upM σ 8 0 g3)) (by rw [hg3]) ?_
      refine u_iconst (v := 1) (pc := 59) F dX8_add_59 (by decide) ?_
      have h1 := Option.some.inj h
      obtain ⟨hj0, hr0⟩ := Prod.mk.inj h1
      subst hj0
      subst hr0
      exact hR _ _ rfl dX8_add_60
    · rw [if_pos c2] at h
      refine u_aload_n (pc := 20) F dX8_add_20 0 rfl rfl ?_
      refine u_getA (pc := 21) F dX8_add_21 (hL 8 0 0 (by decide) rfl) ck_8 fl_8_9 rfl (by decide) (by decide) ?_
      refine u_iload_n (pc := 24) F dX8_add_24 3 rfl rfl ?_
      refine u_dup2 (pc := 25) F dX8_add_25 rfl rfl ?_
      obtain ⟨b4, h⟩ := d_ab_some h
      refine u_aldZ1 (pc := 26) F dX8_add_26 (hL 8 0 1 (by decide) rfl) rfl b4 ?_
      refine u_iload_n (pc := 27) F dX8_add_27 3 rfl rfl ?_
      refine u_iload_n (pc := 28) F dX8_add_28 1 rfl rfl ?_
      obtain ⟨q5, hq5, h⟩ := d_bd_some h
      refine u_callSi (pc := 29) F (As := [.int x3, .int x1]) (c_X10_codeOf G hL x3 x1 (upM σ 8 0 se) q5 hq5) ys_X10_codeOf ml_8_23 (by decide) rfl rfl (Nat.le_of_ble_eq_true rfl) dX8_add_29 ?_
      refine u_iload_n (pc := 32) F dX8_add_32 2 rfl rfl ?_
      obtain ⟨v6, hv6, h⟩ := d_lt_some h
      suffices hj : U Y G (upM σ 8 0 se) 41 [(0, .ref (adr G (8, 0, 0))), (1, .int x1), (2, .int x2), (3, .int x3)] [.int v6, .int (se 1 x3.toNatClampNeg), .int x3, .ref (adr G (8, 0, 1))] by
        refine u_icmp_ne (pc := 33) F 40 dX8_add_33 (by decide) (fun c7 => ?_) (fun c7 => ?_)
        · rw [if_neg c7] at hv6
          refine u_iconst (v := 0) (pc := 40) F dX8_add_40 (by decide) ?_
          exact u_topi hv6 hj
        · rw [if_pos c7] at hv6
          refine u_iconst (v := 1) (pc := 36) F dX8_add_36 (by decide) ?_
          refine u_goto (pc := 37) F 41 dX8_add_37 (by decide) ?_
          exact u_topi hv6 hj
      refine u_iand (pc := 41) F dX8_add_41 ?_
      obtain ⟨b8, h⟩ := d_ab_some h
      obtain ⟨c9, h⟩ := d_zb_some h
      refine u_astZ1 (pc := 42) F dX8_add_42 (hL 8 0 1 (by decide) rfl) rfl b8 (vpn_zb c9) (v2 := ((se 1 x3.toNatClampNeg) &&& v6)) ?_
      obtain ⟨g10, hg10, h⟩ := d_lt_some h
      refine u_mem (σ2 := (upM σ 8 0 g10)) (by rw [hg10]) ?_
      obtain ⟨v11, hv11, h⟩ := d_lt_some h
      refine u_iinc (lv' := [(3, .int v11), (0, .ref (adr G (8, 0, 0))), (1, .int x1), (2, .int x2)]) (pc := 43) F dX8_add_43 3 rfl hv11.symm hY (by decide) rfl ?_
      refine u_goto (pc := 46) F 13 dX8_add_46 (by decide) ?_
      refine u_lv (lv' := [(0, .ref (adr G (8, 0, 0))), (1, .int x1), (2, .int x2), (3, .int v11)]) [1, 2, 3, 0] rfl ?_
      exact ih g10 x1 x2 v11 h
set_option maxHeartbeats 4000000 in
set_option maxRecDepth 100000 in
theorem c_X8_add (G : G0) (hL : In G) (x1 : Int32) (x2 : Int32) (σ : Mem) (se : Grp) (e_se : σ 8 0 = se) (r : Int32) (se' : Grp) (h : fX8_add se x1 x2 = some (r, se')) :
    CI G yX8_add cX8_add 4 .boolean 2 [.ref (adr G (8, 0, 0)), .int x1, .int x2] σ r (upM σ 8 0 (se')) := by
  refine CI.of (by decide +kernel) (Nat.le_of_ble_eq_true rfl) (fun Y hY F hR => ?_)
  unfold fX8_add at h
  have F : Fx Y G cX8_add RX8 2 := F
  refine u_mem (σ2 := (upM σ 8 0 se)) (by rw [← e_se]; simp only [upM_self]) ?_
  refine u_lv (lv' := [(0, .ref (adr G (8, 0, 0))), (1, .int x1), (2, .int x2)]) [0, 1, 2] rfl ?_
  refine u_aload_n (pc := 0) F dX8_add_0 0 rfl rfl ?_
  refine u_get1 (pc := 1) F dX8_add_1 (hL 8 0 0 (by decide) rfl) ck_8 fl_8_19 rfl (by decide) ?_
  refine u_bipush (v := 6) (pc := 4) F dX8_add_4 (by decide) ?_
  refine u_icmp_lt (pc := 6) F 11 dX8_add_6 (by decide) (fun c1 => ?_) (fun c1 => ?_)
  · rw [if_pos c1] at h
    refine u_iconst (v := 0) (pc := 11) F dX8_add_11 (by decide) ?_
    refine u_istore_n (lv' := [(3, .int (0 : Int32)), (0, .ref (adr G (8, 0, 0))), (1, .int x1), (2, .int x2)]) (pc := 12) F dX8_add_12 rfl hY (by decide) rfl ?_
    refine u_lv (lv' := [(0, .ref (adr G (8, 0, 0))), (1, .int x1), (2, .int x2), (3, .int (0 : Int32))]) [1, 2, 3, 0] rfl ?_
    exact wX8_add_13 Y G hL σ F hY r se' hR 1000 se x1 x2 (0 : Int32) h
  · rw [if_neg c1] at h
    refine u_iconst (v := 0) (pc := 9) F dX8_add_9 (by decide) ?_
    have h1 := Option.some.inj h
    obtain ⟨hj0, hr0⟩ := Prod.mk.inj h1
    subst hj0
    subst hr0
    exact hR _ _ rfl dX8_add_10
/- RollingCodes$Seen.fitting -/
def fX8_fitting_4 (se : Grp) : Nat → Int32 → Int32 → Option (Int32)
  | 0, _, _ => none
  | fu + 1, x1, x2 =>
    if x2 < (256 : Int32) then (d_ab x2 256 <| if (se 1 x2.toNatClampNeg) = 0 then (d_lt (x2 + (1 : Int32)) fun v4 => fX8_fitting_4 se fu x1 v4) else (d_lt (x1 + (1 : Int32)) fun v5 => d_lt (x2 + (1 : Int32)) fun v6 => fX8_fitting_4 se fu v5 v6)) else (some x1)
def fX8_fitting (se : Grp) : Option (Int32) :=
    fX8_fitting_4 se 1000 (0 : Int32) (0 : Int32)
set_option maxHeartbeats 4000000 in
set_option maxRecDepth 100000 in
theorem wX8_fitting_4 (Y : Dy) (G : G0) (hL : In G) (σ : Mem) (se : Grp) (e_se : σ 8 0 = se) (F : Fx Y G cX8_fitting RX8 1) (hY : Y.2.2.2.2.2.2.2.2.2.2.2.1 = 3) (r : Int32) (hR : ∀ (pc : Nat) (lv : List (Nat × Value)), narrow .int (.int r) = .int r → decode cX8_fitting pc = .ok (.ireturn, 1) → U Y G σ pc lv [.int r]) :
    ∀ (fu : Nat) (x1 : Int32) (x2 : Int32), fX8_fitting_4 se fu x1 x2 = some r → U Y G σ 4 [(0, .ref (adr G (8, 0, 0))), (1, .int x1), (2, .int x2)] [] := by
  intro fu
  induction fu with
  | zero =>
    intro x1 x2 h
    rw [fX8_fitting_4] at h
    cases h
  | succ fu ih =>
    intro x1 x2 h
    rw [fX8_fitting_4] at h
    refine u_iload_n (pc := 4) F dX8_fitting_4 2 rfl rfl ?_
    refine u_sipush (v := 256) (pc := 5) F dX8_fitting_5 (by decide) ?_
    refine u_icmp_ge (pc := 8) F 29 dX8_fitting_8 (by decide) (fun c1 => ?_) (fun c1 => ?_)
    · rw [if_neg c1] at h
      refine u_iload_n (pc := 29) F dX8_fitting_29 1 rfl rfl ?_
      have h1 := Option.some.inj h
      subst h1
      exact hR _ _ rfl dX8_fitting_30
    · rw [if_pos c1] at h
      refine u_aload_n (pc := 11) F dX8_fitting_11 0 rfl rfl ?_
      refine u_getA (pc := 12) F dX8_fitting_12 (hL 8 0 0 (by decide) rfl) ck_8 fl_8_9 rfl (by decide) (by decide) ?_
      refine u_iload_n (pc := 15) F dX8_fitting_15 2 rfl rfl ?_
      obtain ⟨b2, h⟩ := d_ab_some h
      refine u_aldZ (v := se 1 x2.toNatClampNeg) (pc := 16) F dX8_fitting_16 (hL 8 0 1 (by decide) rfl) rfl b2 (congrFun (congrFun (show σ 8 0 = se from e_se) 1) _) ?_
      refine u_if_eq (pc := 17) F 23 dX8_fitting_17 (by decide) (fun c3 => ?_) (fun c3 => ?_)
      · rw [if_pos c3] at h
        obtain ⟨v4, hv4, h⟩ := d_lt_some h
        refine u_iinc (lv' := [(2, .int v4), (0, .ref (adr G (8, 0, 0))), (1, .int x1)]) (pc := 23) F dX8_fitting_23 2 rfl hv4.symm hY (by decide) rfl ?_
        refine u_goto (pc := 26) F 4 dX8_fitting_26 (by decide) ?_
        refine u_lv (lv' := [(0, .ref (adr G (8, 0, 0))), (1, .int x1), (2, .int v4)]) [1, 2, 0] rfl ?_
        exact ih x1 v4 h
      · rw [if_neg c3] at h
        obtain ⟨v5, hv5, h⟩ := d_lt_some h
        refine u_iinc (lv' := [(1, .int v5), (0, .ref (adr G (8, 0, 0))), (2, .int x2)]) (pc := 20) F dX8_fitting_20 1 rfl hv5.symm hY (by decide) rfl ?_
        obtain ⟨v6, hv6, h⟩ := d_lt_some h
        refine u_iinc (lv' := [(2, .int v6), (1, .int v5), (0, .ref (adr G (8, 0, 0)))]) (pc := 23) F dX8_fitting_23 2 rfl hv6.symm hY (by decide) rfl ?_
        refine u_goto (pc := 26) F 4 dX8_fitting_26 (by decide) ?_
        refine u_lv (lv' := [(0, .ref (adr G (8, 0, 0))), (1, .int v5), (2, .int v6)]) [2, 1, 0] rfl ?_
        exact ih v5 v6 h
set_option maxHeartbeats 4000000 in
set_option maxRecDepth 100000 in
theorem c_X8_fitting (G : G0) (hL : In G) (σ : Mem) (se : Grp) (e_se : σ 8 0 = se) (r : Int32) (h : fX8_fitting se = some r) :
    CI G yX8_fitting cX8_fitting 3 .int 1 [.ref (adr G (8, 0, 0))] σ r σ := by
  refine CI.of (by decide +kernel) (Nat.le_of_ble_eq_true rfl) (fun Y hY F hR => ?_)
  unfold fX8_fitting at h
  have F : Fx Y G cX8_fitting RX8 1 := F
  refine u_lv (lv' := [(0, .ref (adr G (8, 0, 0)))]) [0] rfl ?_
  refine u_iconst (v := 0) (pc := 0) F dX8_fitting_0 (by decide) ?_
  refine u_istore_n (lv' := [(1, .int (0 : Int32)), (0, .ref (adr G (8, 0, 0)))]) (pc := 1) F dX8_fitting_1 rfl hY (by decide) rfl ?_
  refine u_iconst (v := 0) (pc := 2) F dX8_fitting_2 (by decide) ?_
  refine u_istore_n (lv' := [(2, .int (0 : Int32)), (1, .int (0 : Int32)), (0, .ref (adr G (8, 0, 0)))]) (pc := 3) F dX8_fitting_3 rfl hY (by decide) rfl ?_
  refine u_lv (lv' := [(0, .ref (adr G (8, 0, 0))), (1, .int (0 : Int32)), (2, .int (0 : Int32))]) [2, 1, 0] rfl ?_
  exact wX8_fitting_4 Y G hL σ se e_se F hY r hR 1000 (0 : Int32) (0 : Int32) h
/- RollingCodes$Seen.leastFitting -/
def fX8_leastFitting_2 (se : Grp) : Nat → Int32 → Option (Int32)
  | 0, _ => none
  | fu + 1, x1 =>
    if x1 < (256 : Int32) then (d_ab x1 256 <| if (se 1 x1.toNatClampNeg) = 0 then (d_lt (x1 + (1 : Int32)) fun v4 => fX8_leastFitting_2 se fu v4) else (some x1)) else (some (-1 : Int32))
def fX8_leastFitting (se : Grp) : Option (Int32) :=
    fX8_leastFitting_2 se 1000 (0 : Int32)
set_option maxHeartbeats 4000000 in
set_option maxRecDepth 100000 in
theorem wX8_leastFitting_2 (Y : Dy) (G : G0) (hL : In G) (σ : Mem) (se : Grp) (e_se : σ 8 0 = se) (F : Fx Y G cX8_leastFitting RX8 1) (hY : Y.2.2.2.2.2.2.2.2.2.2.2.1 = 2) (r : Int32) (hR : ∀ (pc : Nat) (lv : List (Nat × Value)), narrow .int (.int r) = .int r → decode cX8_leastFitting pc = .ok (.ireturn, 1) → U Y G σ pc lv [.int r]) :
    ∀ (fu : Nat) (x1 : Int32), fX8_leastFitting_2 se fu x1 = some r → U Y G σ 2 [(0, .ref (adr G (8, 0, 0))), (1, .int x1)] [] := by
  intro fu
  induction fu with
  | zero =>
    intro x1 h
    rw [fX8_leastFitting_2] at h
    cases h
  | succ fu ih =>
    intro x1 h
    rw [fX8_leastFitting_2] at h
    refine u_iload_n (pc := 2) F dX8_leastFitting_2 1 rfl rfl ?_
    refine u_sipush (v := 256) (pc := 3) F dX8_leastFitting_3 (by decide) ?_
    refine u_icmp_ge (pc := 6) F 26 dX8_leastFitting_6 (by decide) (fun c1 => ?_) (fun c1 => ?_)
    · rw [if_neg c1] at h
      refine u_iconst (v := -1) (pc := 26) F dX8_leastFitting_26 (by decide) ?_
      have h1 := Option.some.inj h
      subst h1
      exact hR _ _ rfl dX8_leastFitting_27
    · rw [if_pos c1] at h
      refine u_aload_n (pc := 9) F dX8_leastFitting_9 0 rfl rfl ?_
      refine u_getA (pc := 10) F dX8_leastFitting_10 (hL 8 0 0 (by decide) rfl) ck_8 fl_8_9 rfl (by decide) (by decide) ?_
      refine u_iload_n (pc := 13) F dX8_leastFitting_13 1 rfl rfl ?_
      obtain ⟨b2, h⟩ := d_ab_some h
      refine u_aldZ (v := se 1 x1.toNatClampNeg) (pc := 14) F dX8_leastFitting_14 (hL 8 0 1 (by decide) rfl) rfl b2 (congrFun (congrFun (show σ 8 0 = se from e_se) 1) _) ?_
      refine u_if_eq (pc := 15) F 20 dX8_leastFitting_15 (by decide) (fun c3 => ?_) (fun c3 => ?_)
      · rw [if_pos c3] at h
        obtain ⟨v4, hv4, h⟩ := d_lt_some h
        refine u_iinc (lv' := [(1, .int v4), (0, .ref (adr G (8, 0, 0)))]) (pc := 20) F dX8_leastFitting_20 1 rfl hv4.symm hY (by decide) rfl ?_
        refine u_goto (pc := 23) F 2 dX8_leastFitting_23 (by decide) ?_
        refine u_lv (lv' := [(0, .ref (adr G (8, 0, 0))), (1, .int v4)]) [1, 0] rfl ?_
        exact ih v4 h
      · rw [if_neg c3] at h
        refine u_iload_n (pc := 18) F dX8_leastFitting_18 1 rfl rfl ?_
        have h1 := Option.some.inj h
        subst h1
        exact hR _ _ rfl dX8_leastFitting_19
set_option maxHeartbeats 4000000 in
set_option maxRecDepth 100000 in
theorem c_X8_leastFitting (G : G0) (hL : In G) (σ : Mem) (se : Grp) (e_se : σ 8 0 = se) (r : Int32) (h : fX8_leastFitting se = some r) :
    CI G yX8_leastFitting cX8_leastFitting 2 .int 1 [.ref (adr G (8, 0, 0))] σ r σ := by
  refine CI.of (by decide +kernel) (Nat.le_of_ble_eq_true rfl) (fun Y hY F hR => ?_)
  unfold fX8_leastFitting at h
  have F : Fx Y G cX8_leastFitting RX8 1 := F
  refine u_lv (lv' := [(0, .ref (adr G (8, 0, 0)))]) [0] rfl ?_
  refine u_iconst (v := 0) (pc := 0) F dX8_leastFitting_0 (by decide) ?_
  refine u_istore_n (lv' := [(1, .int (0 : Int32)), (0, .ref (adr G (8, 0, 0)))]) (pc := 1) F dX8_leastFitting_1 rfl hY (by decide) rfl ?_
  refine u_lv (lv' := [(0, .ref (adr G (8, 0, 0))), (1, .int (0 : Int32))]) [1, 0] rfl ?_
  exact wX8_leastFitting_2 Y G hL σ se e_se F hY r hR 1000 (0 : Int32) h
/- RollingCodes$Seen.greatestFitting -/
def fX8_greatestFitting_4 (se : Grp) : Nat → Int32 → Option (Int32)
  | 0, _ => none
  | fu + 1, x1 =>
    if x1 < 0 then (some (-1 : Int32)) else (d_ab x1 256 <| if (se 1 x1.toNatClampNeg) = 0 then (d_lt (x1 + (-1 : Int32)) fun v4 => fX8_greatestFitting_4 se fu v4) else (some x1))
def fX8_greatestFitting (se : Grp) : Option (Int32) :=
    fX8_greatestFitting_4 se 1000 (255 : Int32)
set_option maxHeartbeats 4000000 in
set_option maxRecDepth 100000 in
theorem wX8_greatestFitting_4 (Y : Dy) (G : G0) (hL : In G) (σ : Mem) (se : Grp) (e_se : σ 8 0 = se) (F : Fx Y G cX8_greatestFitting RX8 1) (hY : Y.2.2.2.2.2.2.2.2.2.2.2.1 = 2) (r : Int32) (hR : ∀ (pc : Nat) (lv : List (Nat × Value)), narrow .int (.int r) = .int r → decode cX8_greatestFitting pc = .ok (.ireturn, 1) → U Y G σ pc lv [.int r]) :
    ∀ (fu : Nat) (x1 : Int32), fX8_greatestFitting_4 se fu x1 = some r → U Y G σ 4 [(0, .ref (adr G (8, 0, 0))), (1, .int x1)] [] := by
  intro fu
  induction fu with
  | zero =>
    intro x1 h
    rw [fX8_greatestFitting_4] at h
    cases h
  | succ fu ih =>
    intro x1 h
    rw [fX8_greatestFitting_4] at h
    refine u_iload_n (pc := 4) F dX8_greatestFitting_4 1 rfl rfl ?_
    refine u_if_lt (pc := 5) F 25 dX8_greatestFitting_5 (by decide) (fun c1 => ?_) (fun c1 => ?_)
    · rw [if_pos c1] at h
      refine u_iconst (v := -1) (pc := 25) F dX8_greatestFitting_25 (by decide) ?_
      have h1 := Option.some.inj h
      subst h1
      exact hR _ _ rfl dX8_greatestFitting_26
    · rw [if_neg c1] at h
      refine u_aload_n (pc := 8) F dX8_greatestFitting_8 0 rfl rfl ?_
      refine u_getA (pc := 9) F dX8_greatestFitting_9 (hL 8 0 0 (by decide) rfl) ck_8 fl_8_9 rfl (by decide) (by decide) ?_
      refine u_iload_n (pc := 12) F dX8_greatestFitting_12 1 rfl rfl ?_
      obtain ⟨b2, h⟩ := d_ab_some h
      refine u_aldZ (v := se 1 x1.toNatClampNeg) (pc := 13) F dX8_greatestFitting_13 (hL 8 0 1 (by decide) rfl) rfl b2 (congrFun (congrFun (show σ 8 0 = se from e_se) 1) _) ?_
      refine u_if_eq (pc := 14) F 19 dX8_greatestFitting_14 (by decide) (fun c3 => ?_) (fun c3 => ?_)
      · rw [if_pos c3] at h
        obtain ⟨v4, hv4, h⟩ := d_lt_some h
        refine u_iinc (lv' := [(1, .int v4), (0, .ref (adr G (8, 0, 0)))]) (pc := 19) F dX8_greatestFitting_19 1 rfl hv4.symm hY (by decide) rfl ?_
        refine u_goto (pc := 22) F 4 dX8_greatestFitting_22 (by decide) ?_
        refine u_lv (lv' := [(0, .ref (adr G (8, 0, 0))), (1, .int v4)]) [1, 0] rfl ?_
        exact ih v4 h
      · rw [if_neg c3] at h
        refine u_iload_n (pc := 17) F dX8_greatestFitting_17 1 rfl rfl ?_
        have h1 := Option.some.inj h
        subst h1
        exact hR _ _ rfl dX8_greatestFitting_18
set_option maxHeartbeats 4000000 in
set_option maxRecDepth 100000 in
theorem c_X8_greatestFitting (G : G0) (hL : In G) (σ : Mem) (se : Grp) (e_se : σ 8 0 = se) (r : Int32) (h : fX8_greatestFitting se = some r) :
    CI G yX8_greatestFitting cX8_greatestFitting 2 .int 1 [.ref (adr G (8, 0, 0))] σ r σ := by
  refine CI.of (by decide +kernel) (Nat.le_of_ble_eq_true rfl) (fun Y hY F hR => ?_)
  unfold fX8_greatestFitting at h
  have F : Fx Y G cX8_greatestFitting RX8 1 := F
  refine u_lv (lv' := [(0, .ref (adr G (8, 0, 0)))]) [0] rfl ?_
  refine u_sipush (v := 255) (pc := 0) F dX8_greatestFitting_0 (by decide) ?_
  refine u_istore_n (lv' := [(1, .int (255 : Int32)), (0, .ref (adr G (8, 0, 0)))]) (pc := 3) F dX8_greatestFitting_3 rfl hY (by decide) rfl ?_
  refine u_lv (lv' := [(0, .ref (adr G (8, 0, 0))), (1, .int (255 : Int32))]) [1, 0] rfl ?_
  exact wX8_greatestFitting_4 Y G hL σ se e_se F hY r hR 1000 (255 : Int32) h
/- RollingCodes$Seen.greatestPart -/
def fX8_greatestPart_26  : Nat → Grp → Int32 → Int32 → Int32 → Option (Int32 × Grp)
  | 0, _, _, _, _ => none
  | fu + 1, se, x1, x2, x3 =>
    if x3 < (256 : Int32) then (d_ab x3 256 <| if (se 1 x3.toNatClampNeg) = 0 then (d_lt (x3 + (1 : Int32)) fun v5 => fX8_greatestPart_26 fu se x1 x2 v5) else (d_bd (fX10_codeOf x3 x1) fun q6 => d_ab q6 509 <| d_ab q6 509 <| d_lt (wr se 2 q6.toNatClampNeg ((se 2 q6.toNatClampNeg) + (1 : Int32))) fun g9 => d_ab q6 509 <| d_lt (if x2 < (g9 2 q6.toNatClampNeg) then (g9 2 q6.toNatClampNeg) else x2) fun v11 => d_lt (x3 + (1 : Int32)) fun v12 => fX8_greatestPart_26 fu g9 x1 v11 v12)) else (some (x2, se))
def fX8_greatestPart_2  : Nat → Grp → Int32 → Int32 → Option (Int32 × Grp)
  | 0, _, _, _ => none
  | fu + 1, se, x1, x2 =>
    if x2 < (509 : Int32) then (d_ab x2 509 <| d_lt (wr se 2 x2.toNatClampNeg (0 : Int32)) fun g14 => d_lt (x2 + (1 : Int32)) fun v15 => fX8_greatestPart_2 fu g14 x1 v15) else (fX8_greatestPart_26 1000 se x1 (0 : Int32) (0 : Int32))
def fX8_greatestPart (se : Grp) (x1 : Int32) : Option (Int32 × Grp) :=
    fX8_greatestPart_2 1000 se x1 (0 : Int32)
set_option maxHeartbeats 4000000 in
set_option maxRecDepth 100000 in
theorem wX8_greatestPart_26 (Y : Dy) (G : G0) (hL : In G) (σ : Mem) (F : Fx Y G cX8_greatestPart RX8 2) (hY : Y.2.2.2.2.2.2.2.2.2.2.2.1 = 5) (r : Int32) (se' : Grp) (hR : ∀ (pc : Nat) (lv : List (Nat × Value)), narrow .int (.int r) = .int r → decode cX8_greatestPart pc = .ok (.ireturn, 1) → U Y G (upM σ 8 0 (se')) pc lv [.int r]) :
    ∀ (fu : Nat) (se : Grp) (x1 : Int32) (x2 : Int32) (x3 : Int32), fX8_greatestPart_26 fu se x1 x2 x3 = some (r, se') → U Y G (upM σ 8 0 se) 26 [(0, .ref (adr G (8, 0, 0))), (1, .int x1), (2, .int x2), (3, .int x3)] [] := by
  intro fu
  induction fu with
  | zero =>
    intro se x1 x2 x3 h
    rw [fX8_greatestPart_26] at h
    cases h
  | succ fu ih =>
    intro se x1 x2 x3 h
    rw [fX8_greatestPart_26] at h
    refine u_iload_n (pc := 26) F dX8_greatestPart_26 3 rfl rfl ?_
    refine u_sipush (v := 256) (pc := 27) F dX8_greatestPart_27 (by decide) ?_
    refine u_icmp_ge (pc := 30) F 78 dX8_greatestPart_30 (by decide) (fun c2 => ?_) (fun c2 => ?_)
    · rw [if_neg c2] at h
      refine u_iload_n (pc := 78) F dX8_greatestPart_78 2 rfl rfl ?_
      have h1 := Option.some.inj h
      obtain ⟨hj0, hr0⟩ := Prod.mk.inj h1
      subst hj0
      subst hr0
      exact hR _ _ rfl dX8_greatestPart_79
    · rw [if_pos c2] at h
      refine u_aload_n (pc := 33) F dX8_greatestPart_33 0 rfl rfl ?_
      refine u_getA (pc := 34) F dX8_greatestPart_34 (hL 8 0 0 (by decide) rfl) ck_8 fl_8_9 rfl (by decide) (by decide) ?_
      refine u_iload_n (pc := 37) F dX8_greatestPart_37 3 rfl rfl ?_
      obtain ⟨b3, h⟩ := d_ab_some h
      refine u_aldZ1 (pc := 38) F dX8_greatestPart_38 (hL 8 0 1 (by decide) rfl) rfl b3 ?_
      refine u_if_eq (pc := 39) F 72 dX8_greatestPart_39 (by decide) (fun c4 => ?_) (fun c4 => ?_)
      · rw [if_pos c4] at h
        obtain ⟨v5, hv5, h⟩ := d_lt_some h
        refine u_iinc (lv' := [(3, .int v5), (0, .ref (adr G (8, 0, 0))), (1, .int x1), (2, .int x2)]) (pc := 72) F dX8_greatestPart_72 3 rfl hv5.symm hY (by decide) rfl ?_
        refine u_goto (pc := 75) F 26 dX8_greatestPart_75 (by decide) ?_
        refine u_lv (lv' := [(0, .ref (adr G (8, 0, 0))), (1, .int x1), (2, .int x2), (3, .int v5)]) [1, 2, 3, 0] rfl ?_
        exact ih se x1 x2 v5 h
      · rw [if_neg c4] at h
        refine u_iload_n (pc := 42) F dX8_greatestPart_42 3 rfl rfl ?_
        refine u_iload_n (pc := 43) F dX8_greatestPart_43 1 rfl rfl ?_
        obtain ⟨q6, hq6, h⟩ := d_bd_some h
        refine u_callSi (pc := 44) F (As := [.int x3, .int x1]) (c_X10_codeOf G hL x3 x1 (upM σ 8 0 se) q6 hq6) ys_X10_codeOf ml_8_23 (by decide) rfl rfl (Nat.le_of_ble_eq_true rfl) dX8_greatestPart_44 ?_
        refine u_istore (lv' := [(4, .int q6), (0, .ref (adr G (8, 0, 0))), (1, .int x1), (2, .int x2), (3, .int x3)]) (pc := 47) F dX8_greatestPart_47 hY (by decide) rfl ?_
        refine u_aload_n (pc := 49) F dX8_greatestPart_49 1 rfl rfl ?_
        refine u_getA (pc := 50) F dX8_greatestPart_50 (hL 8 0 0 (by decide) rfl) ck_8 fl_8_15 rfl (by decide) (by decide) ?_
        refine u_iload (pc := 53) F dX8_greatestPart_53 0 rfl ?_
        refine u_dup2 (pc := 55) F dX8_greatestPart_55 rfl rfl ?_
        obtain ⟨b7, h⟩ := d_ab_some h
        refine u_aldI1 (pc := 56) F dX8_greatestPart_56 (hL 8 0 2 (by decide) rfl) rfl b7 ?_
        refine u_iconst (v := 1) (pc := 57) F dX8_greatestPart_57 (by decide) ?_
        refine u_iadd (pc := 58) F dX8_greatestPart_58 ?_
        obtain ⟨b8, h⟩ := d_ab_some h
        refine u_astI1 (pc := 59) F dX8_greatestPart_59 (hL 8 0 2 (by decide) rfl) rfl b8 ?_
        obtain ⟨g9, hg9, h⟩ := d_lt_some h
        refine u_mem (σ2 := (upM σ 8 0 g9)) (by rw [hg9]) ?_
        refine u_iload_n (pc := 60) F dX8_greatestPart_60 3 rfl rfl ?_
        refine u_aload_n (pc := 61) F dX8_greatestPart_61 1 rfl rfl ?_
        refine u_getA (pc := 62) F dX8_greatestPart_62 (hL 8 0 0 (by decide) rfl) ck_8 fl_8_15 rfl (by decide) (by decide) ?_
        refine u_iload (pc := 65) F dX8_greatestPart_65 0 rfl ?_
        obtain ⟨b10, h⟩ := d_ab_some h
        refine u_aldI1 (pc := 67) F dX8_greatestPart_67 (hL 8 0 2 (by decide) rfl) rfl b10 ?_
        refine u_max (pc := 68) F mk_8_35 mt_s_max mt_i mt_c_max (by decide) (Nat.le_of_ble_eq_true rfl) dX8_greatestPart_68 ?_
        obtain ⟨v11, hv11, h⟩ := d_lt_some h
        refine u_topi hv11 ?_
        refine u_istore_n (lv' := [(2, .int v11), (4, .int q6), (0, .ref (adr G (8, 0, 0))), (1, .int x1), (3, .int x3)]) (pc := 71) F dX8_greatestPart_71 rfl hY (by decide) rfl ?_
        obtain ⟨v12, hv12, h⟩ := d_lt_some h
        refine u_iinc (lv' := [(3, .int v12), (2, .int v11), (4, .int q6), (0, .ref (adr G (8, 0, 0))), (1, .int x1)]) (pc := 72) F dX8_greatestPart_72 4 rfl hv12.symm hY (by decide) rfl ?_
        refine u_goto (pc := 75) F 26 dX8_greatestPart_75 (by decide) ?_
        refine u_lv (lv' := [(0, .ref (adr G (8, 0, 0))), (1, .int x1), (2, .int v11), (3, .int v12)]) [3, 4, 1, 0] rfl ?_
        exact ih g9 x1 v11 v12 h
set_option maxHeartbeats 4000000 in
set_option maxRecDepth 100000 in
theorem wX8_greatestPart_2 (Y : Dy) (G : G0) (hL : In G) (σ : Mem) (F : Fx Y G cX8_greatestPart RX8 2) (hY : Y.2.2.2.2.2.2.2.2.2.2.2.1 = 5) (r : Int32) (se' : Grp) (hR : ∀ (pc : Nat) (lv : List (Nat × Value)), narrow .int (.int r) = .int r → decode cX8_greatestPart pc = .ok (.ireturn, 1) → U Y G (upM σ 8 0 (se')) pc lv [.int r]) :
    ∀ (fu : Nat) (se : Grp) (x1 : Int32) (x2 : Int32), fX8_greatestPart_2 fu se x1 x2 = some (r, se') → U Y G (upM σ 8 0 se) 2 [(0, .ref (adr G (8, 0, 0))), (1, .int x1), (2, .int x2)] [] := by
  intro fu
  induction fu with
  | zero =>
    intro se x1 x2 h
    rw [fX8_greatestPart_2] at h
    cases h
  | succ fu ih =>
    intro se x1 x2 h
    rw [fX8_greatestPart_2] at h
    refine u_iload_n (pc := 2) F dX8_greatestPart_2 2 rfl rfl ?_
    refine u_sipush (v := 509) (pc := 3) F dX8_greatestPart_3 (by decide) ?_
    refine u_icmp_ge (pc := 6) F 22 dX8_greatestPart_6 (by decide) (fun c1 => ?_) (fun c1 => ?_)
    · rw [if_neg c1] at h
      refine u_iconst (v := 0) (pc := 22) F dX8_greatestPart_22 (by decide) ?_
      refine u_istore_n (lv' := [(2, .int (0 : Int32)), (0, .ref (adr G (8, 0, 0))), (1, .int x1)]) (pc := 23) F dX8_greatestPart_23 rfl hY (by decide) rfl ?_
      refine u_iconst (v := 0) (pc := 24) F dX8_greatestPart_24 (by decide) ?_
      refine u_istore_n (lv' := [(3, .int (0 : Int32)), (2, .int (0 : Int32)), (0, .ref (adr G (8, 0, 0))), (1, .int x1)]) (pc := 25) F dX8_greatestPart_25 rfl hY (by decide) rfl ?_
      refine u_lv (lv' := [(0, .ref (adr G (8, 0, 0))), (1, .int x1), (2, .int (0 : Int32)), (3, .int (0 : Int32))]) [2, 3, 1, 0] rfl ?_
      exact wX8_greatestPart_26 Y G hL σ F hY r se' hR 1000 se x1 (0 : Int32) (0 : Int32) h
    · rw [if_pos c1] at h
      refine u_aload_n (pc := 9) F dX8_greatestPart_9 0 rfl rfl ?_
      refine u_getA (pc := 10) F dX8_greatestPart_10 (hL 8 0 0 (by decide) rfl) ck_8 fl_8_15 rfl (by decide) (by decide) ?_
      refine u_iload_n (pc := 13) F dX8_greatestPart_13 2 rfl rfl ?_
      refine u_iconst (v := 0) (pc := 14) F dX8_greatestPart_14 (by decide) ?_
      obtain ⟨b13, h⟩ := d_ab_some h
      refine u_astI1 (pc := 15) F dX8_greatestPart_15 (hL 8 0 2 (by decide) rfl) rfl b13 ?_
      obtain ⟨g14, hg14, h⟩ := d_lt_some h
      refine u_mem (σ2 := (upM σ 8 0 g14)) (by rw [hg14]) ?_
      obtain ⟨v15, hv15, h⟩ := d_lt_some h
      refine u_iinc (lv' := [(2, .int v15), (0, .ref (adr G (8, 0, 0))), (1, .int x1)]) (pc := 16) F dX8_greatestPart_16 2 rfl hv15.symm hY (by decide) rfl ?_
      refine u_goto (pc := 19) F 2 dX8_greatestPart_19 (by decide) ?_
      refine u_lv (lv' := [(0, .ref (adr G (8, 0, 0))), (1, .int x1), (2, .int v15)]) [1, 2, 0] rfl ?_
      exact ih g14 x1 v15 h
set_option maxHeartbeats 4000000 in
set_option maxRecDepth 100000 in
theorem c_X8_greatestPart (G : G0) (hL : In G) (x1 : Int32) (σ : Mem) (se : Grp) (e_se : σ 8 0 = se) (r : Int32) (se' : Grp) (h : fX8_greatestPart se x1 = some (r, se')) :
    CI G yX8_greatestPart cX8_greatestPart 5 .int 2 [.ref (adr G (8, 0, 0)), .int x1] σ r (upM σ 8 0 (se')) := by
  refine CI.of (by decide +kernel) (Nat.le_of_ble_eq_true rfl) (fun Y hY F hR => ?_)
  unfold fX8_greatestPart at h
  have F : Fx Y G cX8_greatestPart RX8 2 := F
  refine u_mem (σ2 := (upM σ 8 0 se)) (by rw [← e_se]; simp only [upM_self]) ?_
  refine u_lv (lv' := [(0, .ref (adr G (8, 0, 0))), (1, .int x1)]) [0, 1] rfl ?_
  refine u_iconst (v := 0) (pc := 0) F dX8_greatestPart_0 (by decide) ?_
  refine u_istore_n (lv' := [(2, .int (0 : Int32)), (0, .ref (adr G (8, 0, 0))), (1, .int x1)]) (pc := 1) F dX8_greatestPart_1 rfl hY (by decide) rfl ?_
  refine u_lv (lv' := [(0, .ref (adr G (8, 0, 0))), (1, .int x1), (2, .int (0 : Int32))]) [1, 2, 0] rfl ?_
  exact wX8_greatestPart_2 Y G hL σ F hY r se' hR 1000 se x1 (0 : Int32) h
/- RollingCodes$Seen.bestQuestion -/
def fX8_bestQuestion_9  : Nat → Grp → Int32 → Int32 → Int32 → Option (Int32 × Grp)
  | 0, _, _, _, _ => none
  | fu + 1, se, x1, x2, x3 =>
    if x3 ≤ (60 : Int32) then (if x2 ≤ (1 : Int32) then (some (x1, se)) else (d_bd (fX8_greatestPart se x3) fun q4 => if q4.1 < x2 then (d_lt (x3 + (1 : Int32)) fun v7 => fX8_bestQuestion_9 fu q4.2 x3 q4.1 v7) else (d_lt (x3 + (1 : Int32)) fun v6 => fX8_bestQuestion_9 fu q4.2 x1 x2 v6))) else (some (x1, se))
def fX8_bestQuestion (se : Grp) : Option (Int32 × Grp) :=
    d_bd (fX8_fitting se) fun q1 => fX8_bestQuestion_9 1000 se (-1 : Int32) q1 (0 : Int32)
set_option maxHeartbeats 4000000 in
set_option maxRecDepth 100000 in
theorem wX8_bestQuestion_9 (Y : Dy) (G : G0) (hL : In G) (σ : Mem) (F : Fx Y G cX8_bestQuestion RX8 3) (hY : Y.2.2.2.2.2.2.2.2.2.2.2.1 = 5) (r : Int32) (se' : Grp) (hR : ∀ (pc : Nat) (lv : List (Nat × Value)), narrow .int (.int r) = .int r → decode cX8_bestQuestion pc = .ok (.ireturn, 1) → U Y G (upM σ 8 0 (se')) pc lv [.int r]) :
    ∀ (fu : Nat) (se : Grp) (x1 : Int32) (x2 : Int32) (x3 : Int32), fX8_bestQuestion_9 fu se x1 x2 x3 = some (r, se') → U Y G (upM σ 8 0 se) 9 [(0, .ref (adr G (8, 0, 0))), (1, .int x1), (2, .int x2), (3, .int x3)] [] := by
  intro fu
  induction fu with
  | zero =>
    intro se x1 x2 x3 h
    rw [fX8_bestQuestion_9] at h
    cases h
  | succ fu ih =>
    intro se x1 x2 x3 h
    rw [fX8_bestQuestion_9] at h
    refine u_iload_n (pc := 9) F dX8_bestQuestion_9 3 rfl rfl ?_
    refine u_bipush (v := 60) (pc := 10) F dX8_bestQuestion_10 (by decide) ?_
    refine u_icmp_gt (pc := 12) F 44 dX8_bestQuestion_12 (by decide) (fun c2 => ?_) (fun c2 => ?_)
    · rw [if_neg c2] at h
      refine u_iload_n (pc := 44) F dX8_bestQuestion_44 1 rfl rfl ?_
      have h1 := Option.some.inj h
      obtain ⟨hj0, hr0⟩ := Prod.mk.inj h1
      subst hj0
      subst hr0
      exact hR _ _ rfl dX8_bestQuestion_45
    · rw [if_pos c2] at h
      refine u_iload_n (pc := 15) F dX8_bestQuestion_15 2 rfl rfl ?_
      refine u_iconst (v := 1) (pc := 16) F dX8_bestQuestion_16 (by decide) ?_
      refine u_icmp_le (pc := 17) F 44 dX8_bestQuestion_17 (by decide) (fun c3 => ?_) (fun c3 => ?_)
      · rw [if_pos c3] at h
        refine u_iload_n (pc := 44) F dX8_bestQuestion_44 1 rfl rfl ?_
        have h1 := Option.some.inj h
        obtain ⟨hj0, hr0⟩ := Prod.mk.inj h1
        subst hj0
        subst hr0
        exact hR _ _ rfl dX8_bestQuestion_45
      · rw [if_neg c3] at h
        refine u_aload_n (pc := 20) F dX8_bestQuestion_20 0 rfl rfl ?_
        refine u_iload_n (pc := 21) F dX8_bestQuestion_21 3 rfl rfl ?_
        obtain ⟨q4, hq4, h⟩ := d_bd_some h
        refine u_calli (pc := 22) F (As := [.int x3]) (c_X8_greatestPart G hL x3 (upM σ 8 0 se) se (upM_same _ _ _ _) q4.1 q4.2 hq4) yv_X8_greatestPart ml_8_31 (hL 8 0 0 (by decide) rfl) rfl (by decide) rfl rfl (Nat.le_of_ble_eq_true rfl) dX8_bestQuestion_22 ?_
        refine u_mem (σ2 := (upM σ 8 0 q4.2)) (by first | (rw [upM_upM]; done) | (rw [upM_mid _ _ _ _ (by decide)]; done) | (rw [upM_mid _ _ _ _ (by decide), upM_upM]; done) | (rw [upM_mid _ _ _ _ (by decide), upM_mid _ _ _ _ (by decide)]; done)) ?_
        refine u_istore (lv' := [(4, .int q4.1), (0, .ref (adr G (8, 0, 0))), (1, .int x1), (2, .int x2), (3, .int x3)]) (pc := 25) F dX8_bestQuestion_25 hY (by decide) rfl ?_
        refine u_iload (pc := 27) F dX8_bestQuestion_27 0 rfl ?_
        refine u_iload_n (pc := 29) F dX8_bestQuestion_29 3 rfl rfl ?_
        refine u_icmp_ge (pc := 30) F 38 dX8_bestQuestion_30 (by decide) (fun c5 => ?_) (fun c5 => ?_)
        · rw [if_neg c5] at h
          obtain ⟨v6, hv6, h⟩ := d_lt_some h
          refine u_iinc (lv' := [(3, .int v6), (4, .int q4.1), (0, .ref (adr G (8, 0, 0))), (1, .int x1), (2, .int x2)]) (pc := 38) F dX8_bestQuestion_38 4 rfl hv6.symm hY (by decide) rfl ?_
          refine u_goto (pc := 41) F 9 dX8_bestQuestion_41 (by decide) ?_
          refine u_lv (lv' := [(0, .ref (adr G (8, 0, 0))), (1, .int x1), (2, .int x2), (3, .int v6)]) [2, 3, 4, 0] rfl ?_
          exact ih q4.2 x1 x2 v6 h
        · rw [if_pos c5] at h
          refine u_iload (pc := 33) F dX8_bestQuestion_33 0 rfl ?_
          refine u_istore_n (lv' := [(2, .int q4.1), (4, .int q4.1), (0, .ref (adr G (8, 0, 0))), (1, .int x1), (3, .int x3)]) (pc := 35) F dX8_bestQuestion_35 rfl hY (by decide) rfl ?_
          refine u_iload_n (pc := 36) F dX8_bestQuestion_36 4 rfl rfl ?_
          refine u_istore_n (lv' := [(1, .int x3), (2, .int q4.1), (4, .int q4.1), (0, .ref (adr G (8, 0, 0))), (3, .int x3)]) (pc := 37) F dX8_bestQuestion_37 rfl hY (by decide) rfl ?_
          obtain ⟨v7, hv7, h⟩ := d_lt_some h
          refine u_iinc (lv' := [(3, .int v7), (1, .int x3), (2, .int q4.1), (4, .int q4.1), (0, .ref (adr G (8, 0, 0)))]) (pc := 38) F dX8_bestQuestion_38 4 rfl hv7.symm hY (by decide) rfl ?_
          refine u_goto (pc := 41) F 9 dX8_bestQuestion_41 (by decide) ?_
          refine u_lv (lv' := [(0, .ref (adr G (8, 0, 0))), (1, .int x3), (2, .int q4.1), (3, .int v7)]) [4, 1, 2, 0] rfl ?_
          exact ih q4.2 x3 q4.1 v7 h
set_option maxHeartbeats 4000000 in
set_option maxRecDepth 100000 in
theorem c_X8_bestQuestion (G : G0) (hL : In G) (σ : Mem) (se : Grp) (e_se : σ 8 0 = se) (r : Int32) (se' : Grp) (h : fX8_bestQuestion se = some (r, se')) :
    CI G yX8_bestQuestion cX8_bestQuestion 5 .int 3 [.ref (adr G (8, 0, 0))] σ r (upM σ 8 0 (se')) := by
  refine CI.of (by decide +kernel) (Nat.le_of_ble_eq_true rfl) (fun Y hY F hR => ?_)
  unfold fX8_bestQuestion at h
  have F : Fx Y G cX8_bestQuestion RX8 3 := F
  refine u_mem (σ2 := (upM σ 8 0 se)) (by rw [← e_se]; simp only [upM_self]) ?_
  refine u_lv (lv' := [(0, .ref (adr G (8, 0, 0)))]) [0] rfl ?_
  refine u_iconst (v := -1) (pc := 0) F dX8_bestQuestion_0 (by decide) ?_
  refine u_istore_n (lv' := [(1, .int (-1 : Int32)), (0, .ref (adr G (8, 0, 0)))]) (pc := 1) F dX8_bestQuestion_1 rfl hY (by decide) rfl ?_
  refine u_aload_n (pc := 2) F dX8_bestQuestion_2 1 rfl rfl ?_
  obtain ⟨q1, hq1, h⟩ := d_bd_some h
  refine u_calli (pc := 3) F (As := []) (c_X8_fitting G hL (upM σ 8 0 se) se (upM_same _ _ _ _) q1 hq1) yv_X8_fitting ml_8_27 (hL 8 0 0 (by decide) rfl) rfl (by decide) rfl rfl (Nat.le_of_ble_eq_true rfl) dX8_bestQuestion_3 ?_
  refine u_istore_n (lv' := [(2, .int q1), (1, .int (-1 : Int32)), (0, .ref (adr G (8, 0, 0)))]) (pc := 6) F dX8_bestQuestion_6 rfl hY (by decide) rfl ?_
  refine u_iconst (v := 0) (pc := 7) F dX8_bestQuestion_7 (by decide) ?_
  refine u_istore_n (lv' := [(3, .int (0 : Int32)), (2, .int q1), (1, .int (-1 : Int32)), (0, .ref (adr G (8, 0, 0)))]) (pc := 8) F dX8_bestQuestion_8 rfl hY (by decide) rfl ?_
  refine u_lv (lv' := [(0, .ref (adr G (8, 0, 0))), (1, .int (-1 : Int32)), (2, .int q1), (3, .int (0 : Int32))]) [3, 2, 1, 0] rfl ?_
  exact wX8_bestQuestion_9 Y G hL σ F hY r se' hR 1000 se (-1 : Int32) q1 (0 : Int32) h
/- RollingCodes$Book.add -/
def fX0_add (bk : Grp) (x1 : Int32) (x2 : Int32) : Option (Int32 × Grp) :=
    if (bk 0 2) < (15 : Int32) then (d_ab (bk 0 2) 15 <| d_lt (wr bk 1 (bk 0 2).toNatClampNeg x1) fun g3 => d_ab (g3 0 2) 15 <| d_lt (wr g3 2 (g3 0 2).toNatClampNeg x2) fun g5 => d_lt (wr g5 0 2 ((g5 0 2) + (1 : Int32))) fun g6 => some ((1 : Int32), g6)) else (some ((0 : Int32), bk))
set_option maxHeartbeats 4000000 in
set_option maxRecDepth 100000 in
theorem c_X0_add (G : G0) (hL : In G) (x1 : Int32) (x2 : Int32) (σ : Mem) (bk : Grp) (e_bk : σ 0 0 = bk) (r : Int32) (bk' : Grp) (h : fX0_add bk x1 x2 = some (r, bk')) :
    CI G yX0_add cX0_add 3 .boolean 1 [.ref (adr G (0, 0, 0)), .int x1, .int x2] σ r (upM σ 0 0 (bk')) := by
  refine CI.of (by decide +kernel) (Nat.le_of_ble_eq_true rfl) (fun Y hY F hR => ?_)
  unfold fX0_add at h
  have F : Fx Y G cX0_add RX0 1 := F
  refine u_mem (σ2 := (upM σ 0 0 bk)) (by rw [← e_bk]; simp only [upM_self]) ?_
  refine u_lv (lv' := [(0, .ref (adr G (0, 0, 0))), (1, .int x1), (2, .int x2)]) [0, 1, 2] rfl ?_
  refine u_aload_n (pc := 0) F dX0_add_0 0 rfl rfl ?_
  refine u_get1 (pc := 1) F dX0_add_1 (hL 0 0 0 (by decide) rfl) ck_0 fl_0_18 rfl (by decide) ?_
  refine u_bipush (v := 15) (pc := 4) F dX0_add_4 (by decide) ?_
  refine u_icmp_lt (pc := 6) F 11 dX0_add_6 (by decide) (fun c1 => ?_) (fun c1 => ?_)
  · rw [if_pos c1] at h
    refine u_aload_n (pc := 11) F dX0_add_11 0 rfl rfl ?_
    refine u_getA (pc := 12) F dX0_add_12 (hL 0 0 0 (by decide) rfl) ck_0 fl_0_9 rfl (by decide) (by decide) ?_
    refine u_aload_n (pc := 15) F dX0_add_15 0 rfl rfl ?_
    refine u_get1 (pc := 16) F dX0_add_16 (hL 0 0 0 (by decide) rfl) ck_0 fl_0_18 rfl (by decide) ?_
    refine u_iload_n (pc := 19) F dX0_add_19 1 rfl rfl ?_
    obtain ⟨b2, h⟩ := d_ab_some h
    refine u_astI1 (pc := 20) F dX0_add_20 (hL 0 0 1 (by decide) rfl) rfl b2 ?_
    obtain ⟨g3, hg3, h⟩ := d_lt_some h
    refine u_mem (σ2 := (upM σ 0 0 g3)) (by rw [hg3]) ?_
    refine u_aload_n (pc := 21) F dX0_add_21 0 rfl rfl ?_
    refine u_getA (pc := 22) F dX0_add_22 (hL 0 0 0 (by decide) rfl) ck_0 fl_0_15 rfl (by decide) (by decide) ?_
    refine u_aload_n (pc := 25) F dX0_add_25 0 rfl rfl ?_
    refine u_get1 (pc := 26) F dX0_add_26 (hL 0 0 0 (by decide) rfl) ck_0 fl_0_18 rfl (by decide) ?_
    refine u_iload_n (pc := 29) F dX0_add_29 2 rfl rfl ?_
    obtain ⟨b4, h⟩ := d_ab_some h
    refine u_astI1 (pc := 30) F dX0_add_30 (hL 0 0 2 (by decide) rfl) rfl b4 ?_
    obtain ⟨g5, hg5, h⟩ := d_lt_some h
    refine u_mem (σ2 := (upM σ 0 0 g5)) (by rw [hg5]) ?_
    refine u_aload_n (pc := 31) F dX0_add_31 0 rfl rfl ?_
    refine u_dup (pc := 32) F dX0_add_32 rfl ?_
    refine u_get1 (pc := 33) F dX0_add_33 (hL 0 0 0 (by decide) rfl) ck_0 fl_0_18 rfl (by decide) ?_
    refine u_iconst (v := 1) (pc := 36) F dX0_add_36 (by decide) ?_
    refine u_iadd (pc := 37) F dX0_add_37 ?_
    refine u_put1 (pc := 38) F dX0_add_38 (hL 0 0 0 (by decide) rfl) ck_0 fl_0_18 rfl (by decide) rfl (ty0 := .int) (by decide +kernel) rfl rfl ?_
    obtain ⟨g6, hg6, h⟩ := d_lt_some h
    refine u_mem (σ2 := (upM σ 0 0 g6)) (by rw [hg6]) ?_
    refine u_iconst (v := 1) (pc := 41) F dX0_add_41 (by decide) ?_
    have h1 := Option.some.inj h
    obtain ⟨hj0, hr0⟩ := Prod.mk.inj h1
    subst hj0
    subst hr0
    exact hR _ _ rfl dX0_add_42
  · rw [if_neg c1] at h
    refine u_iconst (v := 0) (pc := 9) F dX0_add_9 (by decide) ?_
    have h1 := Option.some.inj h
    obtain ⟨hj0, hr0⟩ := Prod.mk.inj h1
    subst hj0
    subst hr0
    exact hR _ _ rfl dX0_add_10
/- RollingCodes$Book.firstFalse -/
def fX0_firstFalse_2 (bk : Grp) (sc : Grp) : Nat → Int32 → Option (Int32)
  | 0, _ => none
  | fu + 1, x2 =>
    if x2 < (bk 0 2) then (d_ab x2 15 <| d_ab (bk 1 x2.toNatClampNeg) 4 <| d_ab x2 15 <| if (sc 10 (bk 1 x2.toNatClampNeg).toNatClampNeg) = (bk 2 x2.toNatClampNeg) then (d_lt (x2 + (1 : Int32)) fun v6 => fX0_firstFalse_2 bk sc fu v6) else (some x2)) else (some (-1 : Int32))
def fX0_firstFalse (bk : Grp) (sc : Grp) : Option (Int32) :=
    fX0_firstFalse_2 bk sc 1000 (0 : Int32)
set_option maxHeartbeats 4000000 in
set_option maxRecDepth 100000 in
theorem wX0_firstFalse_2 (Y : Dy) (G : G0) (hL : In G) (σ : Mem) (bk : Grp) (sc : Grp) (e_bk : σ 0 0 = bk) (e_sc : σ 7 0 = sc) (F : Fx Y G cX0_firstFalse RX0 1) (hY : Y.2.2.2.2.2.2.2.2.2.2.2.1 = 3) (r : Int32) (hR : ∀ (pc : Nat) (lv : List (Nat × Value)), narrow .int (.int r) = .int r → decode cX0_firstFalse pc = .ok (.ireturn, 1) → U Y G σ pc lv [.int r]) :
    ∀ (fu : Nat) (x2 : Int32), fX0_firstFalse_2 bk sc fu x2 = some r → U Y G σ 2 [(0, .ref (adr G (0, 0, 0))), (1, .ref (adr G (7, 0, 0))), (2, .int x2)] [] := by
  intro fu
  induction fu with
  | zero =>
    intro x2 h
    rw [fX0_firstFalse_2] at h
    cases h
  | succ fu ih =>
    intro x2 h
    rw [fX0_firstFalse_2] at h
    refine u_iload_n (pc := 2) F dX0_firstFalse_2 2 rfl rfl ?_
    refine u_aload_n (pc := 3) F dX0_firstFalse_3 0 rfl rfl ?_
    refine u_get (v := bk 0 2) (pc := 4) F dX0_firstFalse_4 (hL 0 0 0 (by decide) rfl) ck_0 fl_0_18 rfl (by decide) (congrFun (congrFun (show σ 0 0 = bk from e_bk) 0) 2) ?_
    refine u_icmp_ge (pc := 7) F 38 dX0_firstFalse_7 (by decide) (fun c1 => ?_) (fun c1 => ?_)
    · rw [if_neg c1] at h
      refine u_iconst (v := -1) (pc := 38) F dX0_firstFalse_38 (by decide) ?_
      have h1 := Option.some.inj h
      subst h1
      exact hR _ _ rfl dX0_firstFalse_39
    · rw [if_pos c1] at h
      refine u_aload_n (pc := 10) F dX0_firstFalse_10 1 rfl rfl ?_
      refine u_getA (pc := 11) F dX0_firstFalse_11 (hL 7 0 0 (by decide) rfl) ck_7 fl_0_22 rfl (by decide) (by decide) ?_
      refine u_aload_n (pc := 14) F dX0_firstFalse_14 0 rfl rfl ?_
      refine u_getA (pc := 15) F dX0_firstFalse_15 (hL 0 0 0 (by decide) rfl) ck_0 fl_0_9 rfl (by decide) (by decide) ?_
      refine u_iload_n (pc := 18) F dX0_firstFalse_18 2 rfl rfl ?_
      obtain ⟨b2, h⟩ := d_ab_some h
      refine u_aldI (v := bk 1 x2.toNatClampNeg) (pc := 19) F dX0_firstFalse_19 (hL 0 0 1 (by decide) rfl) rfl b2 (congrFun (congrFun (show σ 0 0 = bk from e_bk) 1) _) ?_
      obtain ⟨b3, h⟩ := d_ab_some h
      refine u_aldI (v := sc 10 (bk 1 x2.toNatClampNeg).toNatClampNeg) (pc := 20) F dX0_firstFalse_20 (hL 7 0 10 (by decide) rfl) rfl b3 (congrFun (congrFun (show σ 7 0 = sc from e_sc) 10) _) ?_
      refine u_aload_n (pc := 21) F dX0_firstFalse_21 0 rfl rfl ?_
      refine u_getA (pc := 22) F dX0_firstFalse_22 (hL 0 0 0 (by decide) rfl) ck_0 fl_0_15 rfl (by decide) (by decide) ?_
      refine u_iload_n (pc := 25) F dX0_firstFalse_25 2 rfl rfl ?_
      obtain ⟨b4, h⟩ := d_ab_some h
      refine u_aldI (v := bk 2 x2.toNatClampNeg) (pc := 26) F dX0_firstFalse_26 (hL 0 0 2 (by decide) rfl) rfl b4 (congrFun (congrFun (show σ 0 0 = bk from e_bk) 2) _) ?_
      refine u_icmp_eq (pc := 27) F 32 dX0_firstFalse_27 (by decide) (fun c5 => ?_) (fun c5 => ?_)
      · rw [if_pos c5] at h
        obtain ⟨v6, hv6, h⟩ := d_lt_some h
        refine u_iinc (lv' := [(2, .int v6), (0, .ref (adr G (0, 0, 0))), (1, .ref (adr G (7, 0, 0)))]) (pc := 32) F dX0_firstFalse_32 2 rfl hv6.symm hY (by decide) rfl ?_
        refine u_goto (pc := 35) F 2 dX0_firstFalse_35 (by decide) ?_
        refine u_lv (lv' := [(0, .ref (adr G (0, 0, 0))), (1, .ref (adr G (7, 0, 0))), (2, .int v6)]) [1, 2, 0] rfl ?_
        exact ih v6 h
      · rw [if_neg c5] at h
        refine u_iload_n (pc := 30) F dX0_firstFalse_30 2 rfl rfl ?_
        have h1 := Option.some.inj h
        subst h1
        exact hR _ _ rfl dX0_firstFalse_31
set_option maxHeartbeats 4000000 in
set_option maxRecDepth 100000 in
theorem c_X0_firstFalse (G : G0) (hL : In G) (σ : Mem) (bk : Grp) (sc : Grp) (e_bk : σ 0 0 = bk) (e_sc : σ 7 0 = sc) (r : Int32) (h : fX0_firstFalse bk sc = some r) :
    CI G yX0_firstFalse cX0_firstFalse 3 .int 1 [.ref (adr G (0, 0, 0)), .ref (adr G (7, 0, 0))] σ r σ := by
  refine CI.of (by decide +kernel) (Nat.le_of_ble_eq_true rfl) (fun Y hY F hR => ?_)
  unfold fX0_firstFalse at h
  have F : Fx Y G cX0_firstFalse RX0 1 := F
  refine u_lv (lv' := [(0, .ref (adr G (0, 0, 0))), (1, .ref (adr G (7, 0, 0)))]) [0, 1] rfl ?_
  refine u_iconst (v := 0) (pc := 0) F dX0_firstFalse_0 (by decide) ?_
  refine u_istore_n (lv' := [(2, .int (0 : Int32)), (0, .ref (adr G (0, 0, 0))), (1, .ref (adr G (7, 0, 0)))]) (pc := 1) F dX0_firstFalse_1 rfl hY (by decide) rfl ?_
  refine u_lv (lv' := [(0, .ref (adr G (0, 0, 0))), (1, .ref (adr G (7, 0, 0))), (2, .int (0 : Int32))]) [1, 2, 0] rfl ?_
  exact wX0_firstFalse_2 Y G hL σ bk sc e_bk e_sc F hY r hR 1000 (0 : Int32) h
