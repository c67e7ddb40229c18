/- RollingCodes.goBack -/
def fX10_goBack (σ : Mem) (x1 : Int32) : Option (Int32 × Mem) :=
    d_bd (fX2_isImage σ x1) fun q1 => if q1 = 0 then (some ((-1000000001 : Int32), σ)) else (d_bd (fX2_isTaken σ x1) fun q3 => if q3 = 0 then (some ((-1000000003 : Int32), σ)) else (d_bd (fX2_bringBack σ x1) fun q5 => d_bd (fX3_forget q5) fun q6 => some ((1 : Int32), q6)))
set_option maxHeartbeats 4000000 in
set_option maxRecDepth 100000 in
theorem c_X10_goBack (G : G0) (hL : In G) (x1 : Int32) (σ : Mem) (r : Int32) (σ' : Mem) (h : fX10_goBack σ x1 = some (r, σ')) :
    CI G yX10_goBack cX10_goBack 2 .int 3 [.ref (adr G (10, 0, 0)), .int x1] σ r (σ') := by
  refine CI.of (by decide +kernel) (Nat.le_of_ble_eq_true rfl) (fun Y hY F hR => ?_)
  unfold fX10_goBack at h
  have F : Fx Y G cX10_goBack RX10 3 := F
  refine u_lv (lv' := [(0, .ref (adr G (10, 0, 0))), (1, .int x1)]) [0, 1] rfl ?_
  refine u_aload_n (pc := 0) F dX10_goBack_0 0 rfl rfl ?_
  refine u_getO (pc := 1) F dX10_goBack_1 (hL 10 0 0 (by decide) rfl) ck_10 fl_10_52 rfl (by decide) rfl ?_
  refine u_iload_n (pc := 4) F dX10_goBack_4 1 rfl rfl ?_
  obtain ⟨q1, hq1, h⟩ := d_bd_some h
  refine u_calli (pc := 5) F (As := [.int x1]) (c_X2_isImage G hL x1 σ q1 hq1) yv_X2_isImage ml_10_313 (hL 2 0 0 (by decide) rfl) rfl (by decide) rfl rfl (Nat.le_of_ble_eq_true rfl) dX10_goBack_5 ?_
  refine u_if_ne (pc := 8) F 14 dX10_goBack_8 (by decide) (fun c2 => ?_) (fun c2 => ?_)
  · rw [if_neg c2] at h
    refine u_aload_n (pc := 14) F dX10_goBack_14 0 rfl rfl ?_
    refine u_getO (pc := 15) F dX10_goBack_15 (hL 10 0 0 (by decide) rfl) ck_10 fl_10_52 rfl (by decide) rfl ?_
    refine u_iload_n (pc := 18) F dX10_goBack_18 1 rfl rfl ?_
    obtain ⟨q3, hq3, h⟩ := d_bd_some h
    refine u_calli (pc := 19) F (As := [.int x1]) (c_X2_isTaken G hL x1 σ q3 hq3) yv_X2_isTaken ml_10_320 (hL 2 0 0 (by decide) rfl) rfl (by decide) rfl rfl (Nat.le_of_ble_eq_true rfl) dX10_goBack_19 ?_
    refine u_if_ne (pc := 22) F 28 dX10_goBack_22 (by decide) (fun c4 => ?_) (fun c4 => ?_)
    · rw [if_neg c4] at h
      refine u_aload_n (pc := 28) F dX10_goBack_28 0 rfl rfl ?_
      refine u_getO (pc := 29) F dX10_goBack_29 (hL 10 0 0 (by decide) rfl) ck_10 fl_10_52 rfl (by decide) rfl ?_
      refine u_iload_n (pc := 32) F dX10_goBack_32 1 rfl rfl ?_
      refine u_aload_n (pc := 33) F dX10_goBack_33 0 rfl rfl ?_
      refine u_getO (pc := 34) F dX10_goBack_34 (hL 10 0 0 (by decide) rfl) ck_10 fl_10_35 rfl (by decide) rfl ?_
      refine u_aload_n (pc := 37) F dX10_goBack_37 0 rfl rfl ?_
      refine u_getO (pc := 38) F dX10_goBack_38 (hL 10 0 0 (by decide) rfl) ck_10 fl_10_80 rfl (by decide) rfl ?_
      obtain ⟨q5, hq5, h⟩ := d_bd_some h
      refine u_callv (pc := 41) F (As := [.int x1, .ref (adr G (7, 0, 0)), .ref (adr G (1, 0, 0))]) (c_X2_bringBack G hL x1 σ q5 hq5) yv_X2_bringBack ml_10_323 (hL 2 0 0 (by decide) rfl) rfl (by decide) rfl rfl (Nat.le_of_ble_eq_true rfl) dX10_goBack_41 ?_
      refine u_aload_n (pc := 44) F dX10_goBack_44 0 rfl rfl ?_
      refine u_getO (pc := 45) F dX10_goBack_45 (hL 10 0 0 (by decide) rfl) ck_10 fl_10_45 rfl (by decide) rfl ?_
      obtain ⟨q6, hq6, h⟩ := d_bd_some h
      refine u_callv (pc := 48) F (As := []) (c_X3_forget G hL q5 q6 hq6) yv_X3_forget ml_10_118 (hL 3 0 0 (by decide) rfl) rfl (by decide) rfl rfl (Nat.le_of_ble_eq_true rfl) dX10_goBack_48 ?_
      refine u_iconst (v := 1) (pc := 51) F dX10_goBack_51 (by decide) ?_
      have h1 := Option.some.inj h
      obtain ⟨hj0, hr0⟩ := Prod.mk.inj h1
      subst hj0
      subst hr0
      exact hR _ _ rfl dX10_goBack_52
    · rw [if_pos c4] at h
      refine u_ldc (v := -1000000003) (pc := 25) F dX10_goBack_25 kc_10_225 ?_
      have h1 := Option.some.inj h
      obtain ⟨hj0, hr0⟩ := Prod.mk.inj h1
      subst hj0
      subst hr0
      exact hR _ _ rfl dX10_goBack_27
  · rw [if_pos c2] at h
    refine u_ldc (v := -1000000001) (pc := 11) F dX10_goBack_11 kc_10_160 ?_
    have h1 := Option.some.inj h
    obtain ⟨hj0, hr0⟩ := Prod.mk.inj h1
    subst hj0
    subst hr0
    exact hR _ _ rfl dX10_goBack_13
