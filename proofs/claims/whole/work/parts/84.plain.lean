theorem kB_9 : kB 9 = [0, 1] := by decide +kernel
set_option maxHeartbeats 4000000 in
set_option maxRecDepth 100000 in
/-- RollingCodes$Text: made -/
theorem i_X9 (l : Launch) (D : va_G) (cy : Nat → ClassId) (t6 : Nat → Nat) (h0 : Nat) : CN l D cy t6 yX9_init cX9_init 1 1 [.ref h0] [(h0, .inr (9, zf 9))] (fun a : Nat → Nat => a 0 = h0) (fun a => bw cy 9 (fun _ => 0) (fun _ => 0) (fun _ => 0) a) 1 240 := by
  refine CN.of (by decide +kernel) rfl (Nat.le_of_ble_eq_true rfl) (by omega) (fun Y hY hCE hSL F hNm hR => ?_)
  have F : Nx Y D cy t6 cX9_init RX9 1 := F
  refine n_lv (lv' := [(0, .ref h0)]) [0] rfl ?_
  refine n_aload_n (pc := 0) F dX9_init_0 0 rfl rfl ?_
  refine n_obj (pc := 1) F dX9_init_1 oi_9 rfl ?_
  refine n_aload_n (pc := 4) F dX9_init_4 0 rfl rfl ?_
  refine n_sipush (v := 240) (pc := 5) F dX9_init_5 (by decide) ?_
  refine n_newI (N' := 240) (pc := 8) F dX9_init_8 (by decide) rfl (by omega) (by rw [hCE]; omega) (by rw [hSL]; omega) (fun q1 => ?_)
  refine n_putF (pc := 10) F hNm (ty0 := .array .int) dX9_init_10 ck_9 fw_9_9 (by decide) rfl rfl (by decide +kernel) rfl rfl (by (try simp only [List.length_set]); decide) ?_
  refine n_ws (ws2 := bw cy 9 (fun _ => 0) (fun _ => 0) (fun _ => 0) (fun j => match j with | 0 => h0 | 1 => q1 | _ => 0)) (by unfold bw; rw [kB_9]; rfl) ?_
  exact hR 13 _ _ _ _ rfl (by omega) (by omega) dX9_init_13
theorem kB_4 : kB 4 = [0, 6, 7, 8, 9, 10, 11, 12, 13] := by decide +kernel
set_option maxHeartbeats 4000000 in
set_option maxRecDepth 100000 in
/-- RollingCodes$Plan: made -/
theorem i_X4 (l : Launch) (D : va_G) (cy : Nat → ClassId) (t6 : Nat → Nat) (h0 : Nat) : CN l D cy t6 yX4_init cX4_init 1 1 [.ref h0] [(h0, .inr (4, zf 4))] (fun a : Nat → Nat => a 0 = h0) (fun a => bw cy 4 (fun _ => 0) (fun _ => 0) (fun _ => 0) a) 8 37 := by
  refine CN.of (by decide +kernel) rfl (Nat.le_of_ble_eq_true rfl) (by omega) (fun Y hY hCE hSL F hNm hR => ?_)
  have F : Nx Y D cy t6 cX4_init RX4 1 := F
  refine n_lv (lv' := [(0, .ref h0)]) [0] rfl ?_
  refine n_aload_n (pc := 0) F dX4_init_0 0 rfl rfl ?_
  refine n_obj (pc := 1) F dX4_init_1 oi_4 rfl ?_
  refine n_aload_n (pc := 4) F dX4_init_4 0 rfl rfl ?_
  refine n_iconst (v := 4) (pc := 5) F dX4_init_5 (by decide) ?_
  refine n_newI (N' := 4) (pc := 6) F dX4_init_6 (by decide) rfl (by omega) (by rw [hCE]; omega) (by rw [hSL]; omega) (fun q1 => ?_)
  refine n_putF (pc := 8) F hNm (ty0 := .array .int) dX4_init_8 ck_4 fw_4_9 (by decide) rfl rfl (by decide +kernel) rfl rfl (by (try simp only [List.length_set]); decide) ?_
  refine n_aload_n (pc := 11) F dX4_init_11 0 rfl rfl ?_
  refine n_iconst (v := 4) (pc := 12) F dX4_init_12 (by decide) ?_
  refine n_newI (N' := 4) (pc := 13) F dX4_init_13 (by decide) rfl (by omega) (by rw [hCE]; omega) (by rw [hSL]; omega) (fun q2 => ?_)
  refine n_putF (pc := 15) F hNm (ty0 := .array .int) dX4_init_15 ck_4 fw_4_15 (by decide) rfl rfl (by decide +kernel) rfl rfl (by (try simp only [List.length_set]); decide) ?_
  refine n_aload_n (pc := 18) F dX4_init_18 0 rfl rfl ?_
  refine n_iconst (v := 4) (pc := 19) F dX4_init_19 (by decide) ?_
  refine n_newI (N' := 4) (pc := 20) F dX4_init_20 (by decide) rfl (by omega) (by rw [hCE]; omega) (by rw [hSL]; omega) (fun q3 => ?_)
  refine n_putF (pc := 22) F hNm (ty0 := .array .int) dX4_init_22 ck_4 fw_4_18 (by decide) rfl rfl (by decide +kernel) rfl rfl (by (try simp only [List.length_set]); decide) ?_
  refine n_aload_n (pc := 25) F dX4_init_25 0 rfl rfl ?_
  refine n_iconst (v := 5) (pc := 26) F dX4_init_26 (by decide) ?_
  refine n_newI (N' := 5) (pc := 27) F dX4_init_27 (by decide) rfl (by omega) (by rw [hCE]; omega) (by rw [hSL]; omega) (fun q4 => ?_)
  refine n_putF (pc := 29) F hNm (ty0 := .array .int) dX4_init_29 ck_4 fw_4_21 (by decide) rfl rfl (by decide +kernel) rfl rfl (by (try simp only [List.length_set]); decide) ?_
  refine n_aload_n (pc := 32) F dX4_init_32 0 rfl rfl ?_
  refine n_iconst (v := 5) (pc := 33) F dX4_init_33 (by decide) ?_
  refine n_newI (N' := 5) (pc := 34) F dX4_init_34 (by decide) rfl (by omega) (by rw [hCE]; omega) (by rw [hSL]; omega) (fun q5 => ?_)
  refine n_putF (pc := 36) F hNm (ty0 := .array .int) dX4_init_36 ck_4 fw_4_24 (by decide) rfl rfl (by decide +kernel) rfl rfl (by (try simp only [List.length_set]); decide) ?_
  refine n_aload_n (pc := 39) F dX4_init_39 0 rfl rfl ?_
  refine n_iconst (v := 5) (pc := 40) F dX4_init_40 (by decide) ?_
  refine n_newI (N' := 5) (pc := 41) F dX4_init_41 (by decide) rfl (by omega) (by rw [hCE]; omega) (by rw [hSL]; omega) (fun q6 => ?_)
  refine n_putF (pc := 43) F hNm (ty0 := .array .int) dX4_init_43 ck_4 fw_4_27 (by decide) rfl rfl (by decide +kernel) rfl rfl (by (try simp only [List.length_set]); decide) ?_
  refine n_aload_n (pc := 46) F dX4_init_46 0 rfl rfl ?_
  refine n_iconst (v := 5) (pc := 47) F dX4_init_47 (by decide) ?_
  refine n_newI (N' := 5) (pc := 48) F dX4_init_48 (by decide) rfl (by omega) (by rw [hCE]; omega) (by rw [hSL]; omega) (fun q7 => ?_)
  refine n_putF (pc := 50) F hNm (ty0 := .array .int) dX4_init_50 ck_4 fw_4_30 (by decide) rfl rfl (by decide +kernel) rfl rfl (by (try simp only [List.length_set]); decide) ?_
  refine n_aload_n (pc := 53) F dX4_init_53 0 rfl rfl ?_
  refine n_iconst (v := 5) (pc := 54) F dX4_init_54 (by decide) ?_
  refine n_newI (N' := 5) (pc := 55) F dX4_init_55 (by decide) rfl (by omega) (by rw [hCE]; omega) (by rw [hSL]; omega) (fun q8 => ?_)
  refine n_putF (pc := 57) F hNm (ty0 := .array .int) dX4_init_57 ck_4 fw_4_33 (by decide) rfl rfl (by decide +kernel) rfl rfl (by (try simp only [List.length_set]); decide) ?_
  refine n_ws (ws2 := bw cy 4 (fun _ => 0) (fun _ => 0) (fun _ => 0) (fun j => match j with | 0 => h0 | 6 => q1 | 7 => q2 | 8 => q3 | 9 => q4 | 10 => q5 | 11 => q6 | 12 => q7 | 13 => q8 | _ => 0)) (by unfold bw; rw [kB_4]; rfl) ?_
  exact hR 60 _ _ _ _ rfl (by omega) (by omega) dX4_init_60
theorem kB_7 : kB 7 = [0, 6, 7, 8, 9, 10, 11, 12, 13] := by decide +kernel
set_option maxHeartbeats 4000000 in
set_option maxRecDepth 100000 in
/-- RollingCodes$Scene: made -/
theorem i_X7 (l : Launch) (D : va_G) (cy : Nat → ClassId) (t6 : Nat → Nat) (h0 p : Nat) : CN l D cy t6 yX7_init cX7_init 2 1 [.ref h0, .ref p] [(h0, .inr (7, zf 7))] (fun a : Nat → Nat => a 0 = h0) (fun a => bw cy 7 (fun _ => 0) (fun _ => p) (fun _ => 0) a) 8 55 := by
  refine CN.of (by decide +kernel) rfl (Nat.le_of_ble_eq_true rfl) (by omega) (fun Y hY hCE hSL F hNm hR => ?_)
  have F : Nx Y D cy t6 cX7_init RX7 1 := F
  refine n_lv (lv' := [(0, .ref h0), (1, .ref p)]) [0, 1] rfl ?_
  refine n_aload_n (pc := 0) F dX7_init_0 0 rfl rfl ?_
  refine n_obj (pc := 1) F dX7_init_1 oi_7 rfl ?_
  refine n_aload_n (pc := 4) F dX7_init_4 0 rfl rfl ?_
  refine n_bipush (v := 8) (pc := 5) F dX7_init_5 (by decide) ?_
  refine n_newI (N' := 8) (pc := 7) F dX7_init_7 (by decide) rfl (by omega) (by rw [hCE]; omega) (by rw [hSL]; omega) (fun q1 => ?_)
  refine n_putF (pc := 9) F hNm (ty0 := .array .int) dX7_init_9 ck_7 fw_7_9 (by decide) rfl rfl (by decide +kernel) rfl rfl (by (try simp only [List.length_set]); decide) ?_
  refine n_aload_n (pc := 12) F dX7_init_12 0 rfl rfl ?_
  refine n_iconst (v := 5) (pc := 13) F dX7_init_13 (by decide) ?_
  refine n_newI (N' := 5) (pc := 14) F dX7_init_14 (by decide) rfl (by omega) (by rw [hCE]; omega) (by rw [hSL]; omega) (fun q2 => ?_)
  refine n_putF (pc := 16) F hNm (ty0 := .array .int) dX7_init_16 ck_7 fw_7_15 (by decide) rfl rfl (by decide +kernel) rfl rfl (by (try simp only [List.length_set]); decide) ?_
  refine n_aload_n (pc := 19) F dX7_init_19 0 rfl rfl ?_
  refine n_iconst (v := 5) (pc := 20) F dX7_init_20 (by decide) ?_
  refine n_newI (N' := 5) (pc := 21) F dX7_init_21 (by decide) rfl (by omega) (by rw [hCE]; omega) (by rw [hSL]; omega) (fun q3 => ?_)
  refine n_putF (pc := 23) F hNm (ty0 := .array .int) dX7_init_23 ck_7 fw_7_18 (by decide) rfl rfl (by decide +kernel) rfl rfl (by (try simp only [List.length_set]); decide) ?_
  refine n_aload_n (pc := 26) F dX7_init_26 0 rfl rfl ?_
  refine n_iconst (v := 5) (pc := 27) F dX7_init_27 (by decide) ?_
  refine n_newI (N' := 5) (pc := 28) F dX7_init_28 (by decide) rfl (by omega) (by rw [hCE]; omega) (by rw [hSL]; omega) (fun q4 => ?_)
  refine n_putF (pc := 30) F hNm (ty0 := .array .int) dX7_init_30 ck_7 fw_7_21 (by decide) rfl rfl (by decide +kernel) rfl rfl (by (try simp only [List.length_set]); decide) ?_
  refine n_aload_n (pc := 33) F dX7_init_33 0 rfl rfl ?_
  refine n_iconst (v := 4) (pc := 34) F dX7_init_34 (by decide) ?_
  refine n_newI (N' := 4) (pc := 35) F dX7_init_35 (by decide) rfl (by omega) (by rw [hCE]; omega) (by rw [hSL]; omega) (fun q5 => ?_)
  refine n_putF (pc := 37) F hNm (ty0 := .array .int) dX7_init_37 ck_7 fw_7_24 (by decide) rfl rfl (by decide +kernel) rfl rfl (by (try simp only [List.length_set]); decide) ?_
  refine n_aload_n (pc := 40) F dX7_init_40 0 rfl rfl ?_
  refine n_iconst (v := 4) (pc := 41) F dX7_init_41 (by decide) ?_
  refine n_newI (N' := 4) (pc := 42) F dX7_init_42 (by decide) rfl (by omega) (by rw [hCE]; omega) (by rw [hSL]; omega) (fun q6 => ?_)
  refine n_putF (pc := 44) F hNm (ty0 := .array .int) dX7_init_44 ck_7 fw_7_27 (by decide) rfl rfl (by decide +kernel) rfl rfl (by (try simp only [List.length_set]); decide) ?_
  refine n_aload_n (pc := 47) F dX7_init_47 0 rfl rfl ?_
  refine n_iconst (v := 4) (pc := 48) F dX7_init_48 (by decide) ?_
  refine n_newI (N' := 4) (pc := 49) F dX7_init_49 (by decide) rfl (by omega) (by rw [hCE]; omega) (by rw [hSL]; omega) (fun q7 => ?_)
  refine n_putF (pc := 51) F hNm (ty0 := .array .int) dX7_init_51 ck_7 fw_7_30 (by decide) rfl rfl (by decide +kernel) rfl rfl (by (try simp only [List.length_set]); decide) ?_
  refine n_aload_n (pc := 54) F dX7_init_54 0 rfl rfl ?_
  refine n_bipush (v := 20) (pc := 55) F dX7_init_55 (by decide) ?_
  refine n_newI (N' := 20) (pc := 57) F dX7_init_57 (by decide) rfl (by omega) (by rw [hCE]; omega) (by rw [hSL]; omega) (fun q8 => ?_)
  refine n_putF (pc := 59) F hNm (ty0 := .array .int) dX7_init_59 ck_7 fw_7_33 (by decide) rfl rfl (by decide +kernel) rfl rfl (by (try simp only [List.length_set]); decide) ?_
  refine n_aload_n (pc := 62) F dX7_init_62 0 rfl rfl ?_
  refine n_aload_n (pc := 63) F dX7_init_63 1 rfl rfl ?_
  refine n_putF (pc := 64) F hNm (ty0 := .object "RollingCodes$Plan") dX7_init_64 ck_7 fw_7_36 (by decide) rfl rfl (by decide +kernel) rfl rfl (by (try simp only [List.length_set]); decide) ?_
  refine n_ws (ws2 := bw cy 7 (fun _ => 0) (fun _ => p) (fun _ => 0) (fun j => match j with | 0 => h0 | 6 => q1 | 7 => q2 | 8 => q3 | 9 => q4 | 10 => q5 | 11 => q6 | 12 => q7 | 13 => q8 | _ => 0)) (by unfold bw; rw [kB_7]; rfl) ?_
  exact hR 67 _ _ _ _ rfl (by omega) (by omega) dX7_init_67
theorem kB_8 : kB 8 = [0, 1, 2] := by decide +kernel
set_option maxHeartbeats 4000000 in
set_option maxRecDepth 100000 in
/-- RollingCodes$Seen: made -/
theorem i_X8 (l : Launch) (D : va_G) (cy : Nat → ClassId) (t6 : Nat → Nat) (h0 : Nat) : CN l D cy t6 yX8_init cX8_init 1 1 [.ref h0] [(h0, .inr (8, zf 8))] (fun a : Nat → Nat => a 0 = h0) (fun a => bw cy 8 (fun _ => 0) (fun _ => 0) (fun _ => 0) a) 2 765 := by
  refine CN.of (by decide +kernel) rfl (Nat.le_of_ble_eq_true rfl) (by omega) (fun Y hY hCE hSL F hNm hR => ?_)
  have F : Nx Y D cy t6 cX8_init RX8 1 := F
  refine n_lv (lv' := [(0, .ref h0)]) [0] rfl ?_
  refine n_aload_n (pc := 0) F dX8_init_0 0 rfl rfl ?_
  refine n_obj (pc := 1) F dX8_init_1 oi_8 rfl ?_
  refine n_aload_n (pc := 4) F dX8_init_4 0 rfl rfl ?_
  refine n_sipush (v := 256) (pc := 5) F dX8_init_5 (by decide) ?_
  refine n_newZ (N' := 256) (pc := 8) F dX8_init_8 (by decide) rfl (by omega) (by rw [hCE]; omega) (by rw [hSL]; omega) (fun q1 => ?_)
  refine n_putF (pc := 10) F hNm (ty0 := .array .boolean) dX8_init_10 ck_8 fw_8_9 (by decide) rfl rfl (by decide +kernel) rfl rfl (by (try simp only [List.length_set]); decide) ?_
  refine n_aload_n (pc := 13) F dX8_init_13 0 rfl rfl ?_
  refine n_sipush (v := 509) (pc := 14) F dX8_init_14 (by decide) ?_
  refine n_newI (N' := 509) (pc := 17) F dX8_init_17 (by decide) rfl (by omega) (by rw [hCE]; omega) (by rw [hSL]; omega) (fun q2 => ?_)
  refine n_putF (pc := 19) F hNm (ty0 := .array .int) dX8_init_19 ck_8 fw_8_15 (by decide) rfl rfl (by decide +kernel) rfl rfl (by (try simp only [List.length_set]); decide) ?_
  refine n_ws (ws2 := bw cy 8 (fun _ => 0) (fun _ => 0) (fun _ => 0) (fun j => match j with | 0 => h0 | 1 => q1 | 2 => q2 | _ => 0)) (by unfold bw; rw [kB_8]; rfl) ?_
  exact hR 22 _ _ _ _ rfl (by omega) (by omega) dX8_init_22
theorem kB_0 : kB 0 = [0, 1, 2] := by decide +kernel
set_option maxHeartbeats 4000000 in
set_option maxRecDepth 100000 in
/-- RollingCodes$Book: made -/
theorem i_X0 (l : Launch) (D : va_G) (cy : Nat → ClassId) (t6 : Nat → Nat) (h0 : Nat) : CN l D cy t6 yX0_init cX0_init 1 1 [.ref h0] [(h0, .inr (0, zf 0))] (fun a : Nat → Nat => a 0 = h0) (fun a => bw cy 0 (fun _ => 0) (fun _ => 0) (fun _ => 0) a) 2 30 := by
  refine CN.of (by decide +kernel) rfl (Nat.le_of_ble_eq_true rfl) (by omega) (fun Y hY hCE hSL F hNm hR => ?_)
  have F : Nx Y D cy t6 cX0_init RX0 1 := F
  refine n_lv (lv' := [(0, .ref h0)]) [0] rfl ?_
  refine n_aload_n (pc := 0) F dX0_init_0 0 rfl rfl ?_
  refine n_obj (pc := 1) F dX0_init_1 oi_0 rfl ?_
  refine n_aload_n (pc := 4) F dX0_init_4 0 rfl rfl ?_
  refine n_bipush (v := 15) (pc := 5) F dX0_init_5 (by decide) ?_
  refine n_newI (N' := 15) (pc := 7) F dX0_init_7 (by decide) rfl (by omega) (by rw [hCE]; omega) (by rw [hSL]; omega) (fun q1 => ?_)
  refine n_putF (pc := 9) F hNm (ty0 := .array .int) dX0_init_9 ck_0 fw_0_9 (by decide) rfl rfl (by decide +kernel) rfl rfl (by (try simp only [List.length_set]); decide) ?_
  refine n_aload_n (pc := 12) F dX0_init_12 0 rfl rfl ?_
  refine n_bipush (v := 15) (pc := 13) F dX0_init_13 (by decide) ?_
  refine n_newI (N' := 15) (pc := 15) F dX0_init_15 (by decide) rfl (by omega) (by rw [hCE]; omega) (by rw [hSL]; omega) (fun q2 => ?_)
  refine n_putF (pc := 17) F hNm (ty0 := .array .int) dX0_init_17 ck_0 fw_0_15 (by decide) rfl rfl (by decide +kernel) rfl rfl (by (try simp only [List.length_set]); decide) ?_
  refine n_ws (ws2 := bw cy 0 (fun _ => 0) (fun _ => 0) (fun _ => 0) (fun j => match j with | 0 => h0 | 1 => q1 | 2 => q2 | _ => 0)) (by unfold bw; rw [kB_0]; rfl) ?_
  exact hR 20 _ _ _ _ rfl (by omega) (by omega) dX0_init_20
theorem kB_1 : kB 1 = [0] := by decide +kernel
set_option maxHeartbeats 4000000 in
set_option maxRecDepth 100000 in
/-- RollingCodes$Draws: made -/
theorem i_X1 (l : Launch) (D : va_G) (cy : Nat → ClassId) (t6 : Nat → Nat) (h0 : Nat) : CN l D cy t6 yX1_init cX1_init 1 1 [.ref h0] [(h0, .inr (1, zf 1))] (fun a : Nat → Nat => a 0 = h0) (fun a => bw cy 1 (fun _ => 0) (fun _ => 0) (fun _ => 0) a) 0 0 := by
  refine CN.of (by decide +kernel) rfl (Nat.le_of_ble_eq_true rfl) (by omega) (fun Y hY hCE hSL F hNm hR => ?_)
  have F : Nx Y D cy t6 cX1_init RX1 1 := F
  refine n_lv (lv' := [(0, .ref h0)]) [0] rfl ?_
  refine n_aload_n (pc := 0) F dX1_init_0 0 rfl rfl ?_
  refine n_obj (pc := 1) F dX1_init_1 oi_1 rfl ?_
  refine n_ws (ws2 := bw cy 1 (fun _ => 0) (fun _ => 0) (fun _ => 0) (fun j => match j with | 0 => h0 | _ => 0)) (by unfold bw; rw [kB_1]; rfl) ?_
  exact hR 4 _ _ _ _ rfl (by omega) (by omega) dX1_init_4
