/- java/lang/Integer.bitCount -/
def fJ6_bitCount_0f7a4 (x0 : Int32) : Option (Int32) :=
    d_lt (x0 - ((jushr x0 (1 : Int32)) &&& (1431655765 : Int32))) fun v1 => d_lt ((v1 &&& (858993459 : Int32)) + ((jushr v1 (2 : Int32)) &&& (858993459 : Int32))) fun v2 => d_lt ((v2 + (jushr v2 (4 : Int32))) &&& (252645135 : Int32)) fun v3 => d_lt (v3 + (jushr v3 (8 : Int32))) fun v4 => d_lt (v4 + (jushr v4 (16 : Int32))) fun v5 => some (v5 &&& (63 : Int32))
set_option maxHeartbeats 4000000 in
set_option maxRecDepth 100000 in
theorem c_J6_bitCount_0f7a4 (G : G0) (hL : In G) (x0 : Int32) (σ : Mem) (r : Int32) (h : fJ6_bitCount_0f7a4 x0 = some r) :
    CI G yJ6_bitCount_0f7a4 cJ6_bitCount_0f7a4 1 .int 1 [.int x0] σ r σ := by
  refine CI.of (by decide +kernel) (Nat.le_of_ble_eq_true rfl) (fun Y hY F hR => ?_)
  unfold fJ6_bitCount_0f7a4 at h
  have F : Fx Y G cJ6_bitCount_0f7a4 RJ6 1 := F
  refine u_lv (lv' := [(0, .int x0)]) [0] rfl ?_
  refine u_iload_n (pc := 0) F dJ6_bitCount_0f7a4_0 0 rfl rfl ?_
  refine u_iload_n (pc := 1) F dJ6_bitCount_0f7a4_1 0 rfl rfl ?_
  refine u_iconst (v := 1) (pc := 2) F dJ6_bitCount_0f7a4_2 (by decide) ?_
  refine u_iushr (pc := 3) F dJ6_bitCount_0f7a4_3 ?_
  refine u_ldc_w (v := 1431655765) (pc := 4) F dJ6_bitCount_0f7a4_4 kc_J6_265 ?_
  refine u_iand (pc := 7) F dJ6_bitCount_0f7a4_7 ?_
  refine u_isub (pc := 8) F dJ6_bitCount_0f7a4_8 ?_
  obtain ⟨v1, hv1, h⟩ := d_lt_some h
  refine u_topi hv1 ?_
  refine u_istore_n (lv' := [(0, .int v1)]) (pc := 9) F dJ6_bitCount_0f7a4_9 rfl hY (by decide) rfl ?_
  refine u_iload_n (pc := 10) F dJ6_bitCount_0f7a4_10 0 rfl rfl ?_
  refine u_ldc_w (v := 858993459) (pc := 11) F dJ6_bitCount_0f7a4_11 kc_J6_266 ?_
  refine u_iand (pc := 14) F dJ6_bitCount_0f7a4_14 ?_
  refine u_iload_n (pc := 15) F dJ6_bitCount_0f7a4_15 0 rfl rfl ?_
  refine u_iconst (v := 2) (pc := 16) F dJ6_bitCount_0f7a4_16 (by decide) ?_
  refine u_iushr (pc := 17) F dJ6_bitCount_0f7a4_17 ?_
  refine u_ldc_w (v := 858993459) (pc := 18) F dJ6_bitCount_0f7a4_18 kc_J6_266 ?_
  refine u_iand (pc := 21) F dJ6_bitCount_0f7a4_21 ?_
  refine u_iadd (pc := 22) F dJ6_bitCount_0f7a4_22 ?_
  obtain ⟨v2, hv2, h⟩ := d_lt_some h
  refine u_topi hv2 ?_
  refine u_istore_n (lv' := [(0, .int v2)]) (pc := 23) F dJ6_bitCount_0f7a4_23 rfl hY (by decide) rfl ?_
  refine u_iload_n (pc := 24) F dJ6_bitCount_0f7a4_24 0 rfl rfl ?_
  refine u_iload_n (pc := 25) F dJ6_bitCount_0f7a4_25 0 rfl rfl ?_
  refine u_iconst (v := 4) (pc := 26) F dJ6_bitCount_0f7a4_26 (by decide) ?_
  refine u_iushr (pc := 27) F dJ6_bitCount_0f7a4_27 ?_
  refine u_iadd (pc := 28) F dJ6_bitCount_0f7a4_28 ?_
  refine u_ldc_w (v := 252645135) (pc := 29) F dJ6_bitCount_0f7a4_29 kc_J6_267 ?_
  refine u_iand (pc := 32) F dJ6_bitCount_0f7a4_32 ?_
  obtain ⟨v3, hv3, h⟩ := d_lt_some h
  refine u_topi hv3 ?_
  refine u_istore_n (lv' := [(0, .int v3)]) (pc := 33) F dJ6_bitCount_0f7a4_33 rfl hY (by decide) rfl ?_
  refine u_iload_n (pc := 34) F dJ6_bitCount_0f7a4_34 0 rfl rfl ?_
  refine u_iload_n (pc := 35) F dJ6_bitCount_0f7a4_35 0 rfl rfl ?_
  refine u_bipush (v := 8) (pc := 36) F dJ6_bitCount_0f7a4_36 (by decide) ?_
  refine u_iushr (pc := 38) F dJ6_bitCount_0f7a4_38 ?_
  refine u_iadd (pc := 39) F dJ6_bitCount_0f7a4_39 ?_
  obtain ⟨v4, hv4, h⟩ := d_lt_some h
  refine u_topi hv4 ?_
  refine u_istore_n (lv' := [(0, .int v4)]) (pc := 40) F dJ6_bitCount_0f7a4_40 rfl hY (by decide) rfl ?_
  refine u_iload_n (pc := 41) F dJ6_bitCount_0f7a4_41 0 rfl rfl ?_
  refine u_iload_n (pc := 42) F dJ6_bitCount_0f7a4_42 0 rfl rfl ?_
  refine u_bipush (v := 16) (pc := 43) F dJ6_bitCount_0f7a4_43 (by decide) ?_
  refine u_iushr (pc := 45) F dJ6_bitCount_0f7a4_45 ?_
  refine u_iadd (pc := 46) F dJ6_bitCount_0f7a4_46 ?_
  obtain ⟨v5, hv5, h⟩ := d_lt_some h
  refine u_topi hv5 ?_
  refine u_istore_n (lv' := [(0, .int v5)]) (pc := 47) F dJ6_bitCount_0f7a4_47 rfl hY (by decide) rfl ?_
  refine u_iload_n (pc := 48) F dJ6_bitCount_0f7a4_48 0 rfl rfl ?_
  refine u_bipush (v := 63) (pc := 49) F dJ6_bitCount_0f7a4_49 (by decide) ?_
  refine u_iand (pc := 51) F dJ6_bitCount_0f7a4_51 ?_
  have h1 := Option.some.inj h
  subst h1
  exact hR _ _ rfl dJ6_bitCount_0f7a4_52
/- java/lang/Math.floorMod -/
def fJ9_floorMod_7cf53 (x0 : Int32) (x1 : Int32) : Option (Int32) :=
    d_nz x1 <| d_lt (jrem x0 x1) fun v2 => if (x0 ^^^ x1) < 0 then (if v2 = 0 then (some v2) else (some (v2 + x1))) else (some v2)
set_option maxHeartbeats 4000000 in
set_option maxRecDepth 100000 in
theorem c_J9_floorMod_7cf53 (G : G0) (hL : In G) (x0 : Int32) (x1 : Int32) (σ : Mem) (r : Int32) (h : fJ9_floorMod_7cf53 x0 x1 = some r) :
    CI G yJ9_floorMod_7cf53 cJ9_floorMod_7cf53 3 .int 1 [.int x0, .int x1] σ r σ := by
  refine CI.of (by decide +kernel) (Nat.le_of_ble_eq_true rfl) (fun Y hY F hR => ?_)
  unfold fJ9_floorMod_7cf53 at h
  have F : Fx Y G cJ9_floorMod_7cf53 RJ9 1 := F
  refine u_lv (lv' := [(0, .int x0), (1, .int x1)]) [0, 1] rfl ?_
  refine u_iload_n (pc := 0) F dJ9_floorMod_7cf53_0 0 rfl rfl ?_
  refine u_iload_n (pc := 1) F dJ9_floorMod_7cf53_1 1 rfl rfl ?_
  obtain ⟨c1, h⟩ := d_nz_some h
  refine u_irem (pc := 2) F dJ9_floorMod_7cf53_2 c1 ?_
  obtain ⟨v2, hv2, h⟩ := d_lt_some h
  refine u_topi hv2 ?_
  refine u_istore_n (lv' := [(2, .int v2), (0, .int x0), (1, .int x1)]) (pc := 3) F dJ9_floorMod_7cf53_3 rfl hY (by decide) rfl ?_
  refine u_iload_n (pc := 4) F dJ9_floorMod_7cf53_4 1 rfl rfl ?_
  refine u_iload_n (pc := 5) F dJ9_floorMod_7cf53_5 2 rfl rfl ?_
  refine u_ixor (pc := 6) F dJ9_floorMod_7cf53_6 ?_
  refine u_if_ge (pc := 7) F 18 dJ9_floorMod_7cf53_7 (by decide) (fun c3 => ?_) (fun c3 => ?_)
  · rw [if_neg c3] at h
    refine u_iload_n (pc := 18) F dJ9_floorMod_7cf53_18 0 rfl rfl ?_
    have h1 := Option.some.inj h
    subst h1
    exact hR _ _ rfl dJ9_floorMod_7cf53_19
  · rw [if_pos c3] at h
    refine u_iload_n (pc := 10) F dJ9_floorMod_7cf53_10 0 rfl rfl ?_
    refine u_if_eq (pc := 11) F 18 dJ9_floorMod_7cf53_11 (by decide) (fun c4 => ?_) (fun c4 => ?_)
    · rw [if_pos c4] at h
      refine u_iload_n (pc := 18) F dJ9_floorMod_7cf53_18 0 rfl rfl ?_
      have h1 := Option.some.inj h
      subst h1
      exact hR _ _ rfl dJ9_floorMod_7cf53_19
    · rw [if_neg c4] at h
      refine u_iload_n (pc := 14) F dJ9_floorMod_7cf53_14 0 rfl rfl ?_
      refine u_iload_n (pc := 15) F dJ9_floorMod_7cf53_15 2 rfl rfl ?_
      refine u_iadd (pc := 16) F dJ9_floorMod_7cf53_16 ?_
      have h1 := Option.some.inj h
      subst h1
      exact hR _ _ rfl dJ9_floorMod_7cf53_17
