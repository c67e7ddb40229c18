/-! rows of scenes -/
def scn (cy : Nat → ClassId) (p k : Nat) (B : Nat → Nat → Nat) : va_W := (List.range k).flatMap (fun x => bw cy 7 (fun _ => 0) (fun _ => p) (fun _ => 0) (B x))
theorem flatMap_cg {α β : Type} {f g : α → List β} : ∀ {l : List α}, (∀ x ∈ l, f x = g x) → l.flatMap f = l.flatMap g := by
  intro l
  induction l with
  | nil => intro _; rfl
  | cons a l ih =>
    intro h
    rw [List.flatMap_cons, List.flatMap_cons, h a (List.mem_cons_self ..), ih (fun x hx => h x (List.mem_cons_of_mem _ hx))]
theorem scn_cg {cy : Nat → ClassId} {p k : Nat} {B B2 : Nat → Nat → Nat} (h : ∀ x, x < k → B x = B2 x) : scn cy p k B = scn cy p k B2 := by
  unfold scn
  exact flatMap_cg (fun x hx => by rw [h x (List.mem_range.mp hx)])
theorem scn_succ (cy : Nat → ClassId) (p k : Nat) (B : Nat → Nat → Nat) (b : Nat → Nat) : scn cy p k B ++ bw cy 7 (fun _ => 0) (fun _ => p) (fun _ => 0) b = scn cy p (k + 1) (fun x => if x = k then b else B x) := by
  have h : scn cy p k B = scn cy p k (fun x => if x = k then b else B x) := scn_cg (fun x hx => by rw [if_neg (by omega)])
  rw [h]
  unfold scn
  rw [List.range_succ, List.flatMap_append]
  congr 1
  rw [List.flatMap_singleton]
  show _ = bw cy 7 (fun _ => 0) (fun _ => p) (fun _ => 0) (if k = k then b else B k)
  rw [if_pos rfl]
set_option maxHeartbeats 4000000 in
set_option maxRecDepth 100000 in
theorem lp_X3 (l : Launch) (D : va_G) (cy : Nat → ClassId) (t6 : Nat → Nat) (h0 p q : Nat) (Y : Dy) (hY : Y.2.2.2.2.2.2.2.2.2.2.2.1 = 3) (hCE : Y.2.2.2.2.2.2.2.2.2.2.2.2.1 = 145) (hSL : Y.2.2.2.2.2.2.2.2.2.2.2.2.2 = 1104) (F : Nx Y D cy t6 cX3_init RX3 2) (hR : ∀ (ce sl : Nat) (lv : List (Nat × Value)) (B : Nat → Nat → Nat), ce ≤ 145 → sl ≤ 1104 → N Y l D ((h0, .inr (3, [.ref q, .int 0, .int 0])) :: (q, .inl (cy 2, 16, .inr (.inr (.inr (.inr (fun x => some (B x 0))))))) :: (([] : va_W) ++ scn cy p 16 B)) ce sl 41 lv []) : ∀ (c i : Nat) (B : Nat → Nat → Nat) (f : Nat → Option Nat), i + c = 16 → (∀ x, x < i → f x = some (B x 0)) → N Y l D ((h0, .inr (3, [.ref q, .int 0, .int 0])) :: (q, .inl (cy 2, 16, .inr (.inr (.inr (.inr f))))) :: (([] : va_W) ++ scn cy p i B)) (1 + 9 * i) (16 + 68 * i) 15 [(0, .ref h0), (1, .ref p), (2, .int (nI i))] [] := by
  intro c
  induction c with
  | zero =>
    intro i B f hi hf
    obtain rfl : i = 16 := by omega
    refine n_iload_n (pc := 15) F dX3_init_15 2 rfl rfl ?_
    refine n_bipush (v := 16) (pc := 16) F dX3_init_16 (by decide) ?_
    refine n_icmp_ge (pc := 18) F 41 dX3_init_18 (by decide) (fun _ => ?_) (fun hc => absurd hc (by decide))
    refine n_arr (f2 := fun x => some (B x 0)) hf ?_
    exact hR _ _ _ B (by omega) (by omega)
  | succ c ih =>
    intro i B f hi hf
    refine n_iload_n (pc := 15) F dX3_init_15 2 rfl rfl ?_
    refine n_bipush (v := 16) (pc := 16) F dX3_init_16 (by decide) ?_
    refine n_icmp_ge (pc := 18) F 41 dX3_init_18 (by decide) (fun hc => absurd (show nI i < 16 from nI_lt (b := 16) (by omega) (by omega)) hc) (fun _ => ?_)
    refine n_aload_n (pc := 21) F dX3_init_21 0 rfl rfl ?_
    refine n_get (pc := 22) (v := .ref q) F dX3_init_22 ck_3 fl_3_11 (by decide) rfl ?_
    refine n_iload_n (pc := 25) F dX3_init_25 2 rfl rfl ?_
    refine n_new (pc := 26) (t := 7) F dX3_init_26 ck_7 yn_3_9 hz_7 (by rw [hCE]; omega) (by rw [hSL]; show 16 + 68 * i + 13 ≤ 1104; omega) (fun s => ?_)
    refine n_dup (pc := 29) F dX3_init_29 rfl ?_
    refine n_aload_n (pc := 30) F dX3_init_30 1 rfl rfl ?_
    refine n_init (pc := 31) (As := [.ref p]) (st := [.ref s, .int (nI i), .ref q]) F (i_X7 l D cy t6 s p) yi_7 mi_3_17 (by omega) rfl rfl (Nat.le_of_ble_eq_true rfl) dX3_init_31 (by rw [hCE]; omega) (by rw [hSL]; show 16 + 68 * i + 13 + 55 ≤ 1104; omega) (fun b hb => ?_)
    refine n_ws (ws2 := (h0, .inr (3, [.ref q, .int 0, .int 0])) :: (q, .inl (cy 2, 16, .inr (.inr (.inr (.inr f))))) :: ((([] : va_W) ++ scn cy p i B) ++ bw cy 7 (fun _ => 0) (fun _ => p) (fun _ => 0) b)) rfl ?_
    refine n_astq (pc := 34) (qk := (([] : va_W) ++ scn cy p i B).length + 2) (vs := (List.range (nf 7)).map (fun i => match fk 7 i with | (0, _) => .int 0 | (4, _) => .ref p | _ => .ref (b (i + 1)))) F dX3_init_34 ?_ (vp_in_nI (by omega) (by omega)) ?_
    · show ((([] : va_W) ++ scn cy p i B) ++ bw cy 7 (fun _ => 0) (fun _ => p) (fun _ => 0) b)[(([] : va_W) ++ scn cy p i B).length]? = _
      rw [List.getElem?_append_right (Nat.le_refl _), Nat.sub_self, ← hb]
      unfold bw
      rw [kB_7]
      rfl
    · rw [nI_clamp (by omega), List.append_assoc, scn_succ]
      refine n_iinc (pc := 35) (v := nI (i + 1)) (lv' := [(2, .int (nI (i + 1))), (0, .ref h0), (1, .ref p)]) F dX3_init_35 2 rfl (nI_succ i).symm hY (by decide) rfl ?_
      refine n_goto (pc := 38) F 15 dX3_init_38 (by decide) ?_
      refine n_lv (lv' := [(0, .ref h0), (1, .ref p), (2, .int (nI (i + 1)))]) [1, 2, 0] rfl ?_
      have := ih (i + 1) (fun x => if x = i then b else B x) (va_up f i (some s)) (by omega) (fun x hx => by
        by_cases e : x = i
        · rw [e, va_up_self, if_pos rfl, hb]
        · rw [va_up_ne _ _ e, if_neg e]
          exact hf x (by omega))
      rw [show 1 + 9 * (i + 1) = 1 + 9 * i + 1 + 8 from by omega, show 16 + 68 * (i + 1) = 16 + 68 * i + 13 + 55 from by omega] at this
      exact this
set_option maxHeartbeats 4000000 in
set_option maxRecDepth 100000 in
/-- RollingCodes$Past: made, with its scenes -/
theorem i_X3 (l : Launch) (D : va_G) (cy : Nat → ClassId) (t6 : Nat → Nat) (h0 p : Nat) : CN l D cy t6 yX3_init cX3_init 3 2 [.ref h0, .ref p] [(h0, .inr (3, zf 3))] (fun u : (Nat → Nat) × (Nat → Nat → Nat) => u.1 0 = h0) (fun u => bw cy 3 (fun _ => 0) (fun _ => 0) (fun x => u.2 x 0) u.1 ++ scn cy p 16 u.2) 145 1104 := by
  refine CN.of (by decide +kernel) rfl (Nat.le_of_ble_eq_true rfl) (by omega) (fun Y hY hCE hSL F hNm hR => ?_)
  have F : Nx Y D cy t6 cX3_init RX3 2 := F
  refine n_lv (lv' := [(0, .ref h0), (1, .ref p)]) [0, 1] rfl ?_
  refine n_aload_n (pc := 0) F dX3_init_0 0 rfl rfl ?_
  refine n_obj (pc := 1) F dX3_init_1 oi_3 rfl ?_
  refine n_aload_n (pc := 4) F dX3_init_4 0 rfl rfl ?_
  refine n_bipush (v := 16) (pc := 5) F dX3_init_5 (by decide) ?_
  refine n_newq (N' := 16) (pc := 7) F dX3_init_7 cl_3_9 (by decide) rfl (by omega) (by rw [hCE]; omega) (by rw [hSL]; omega) (fun q => ?_)
  refine n_putF (pc := 10) F hNm (ty0 := .array (.object "RollingCodes$Scene")) dX3_init_10 ck_3 fw_3_11 (by decide) rfl rfl (by decide +kernel) rfl rfl (by (try simp only [List.length_set]); decide) ?_
  refine n_iconst (v := 0) (pc := 13) F dX3_init_13 (by decide) ?_
  refine n_istore_n (pc := 14) (lv' := [(2, .int 0), (0, .ref h0), (1, .ref p)]) F dX3_init_14 rfl hY (by decide) rfl ?_
  refine n_lv (lv' := [(0, .ref h0), (1, .ref p), (2, .int (nI 0))]) [1, 2, 0] rfl ?_
  refine n_ws (ws2 := (h0, .inr (3, [.ref q, .int 0, .int 0])) :: (q, .inl (cy 2, 16, .inr (.inr (.inr (.inr (fun _ => none)))))) :: (([] : va_W) ++ scn cy p 0 (fun _ _ => 0))) rfl ?_
  refine lp_X3 l D cy t6 h0 p q Y hY hCE hSL F (fun ce sl lv B h1 h2 => ?_) 16 0 (fun _ _ => 0) (fun _ => none) rfl (fun x hx => absurd hx (by omega))
  refine n_ws (ws2 := bw cy 3 (fun _ => 0) (fun _ => 0) (fun x => B x 0) (fun j => match j with | 0 => h0 | 1 => q | _ => 0) ++ scn cy p 16 B) (by unfold bw; rw [kB_3]; rfl) ?_
  exact hR 41 _ _ _ ((fun j => match j with | 0 => h0 | 1 => q | _ => 0), B) rfl h1 h2 dX3_init_41
set_option maxHeartbeats 4000000 in
set_option maxRecDepth 100000 in
theorem lp_X2 (l : Launch) (D : va_G) (cy : Nat → ClassId) (t6 : Nat → Nat) (h0 p q : Nat) (r0 r1 : Nat) (Y : Dy) (hY : Y.2.2.2.2.2.2.2.2.2.2.2.1 = 3) (hCE : Y.2.2.2.2.2.2.2.2.2.2.2.2.1 = 21) (hSL : Y.2.2.2.2.2.2.2.2.2.2.2.2.2 = 142) (F : Nx Y D cy t6 cX2_init RX2 2) (hR : ∀ (ce sl : Nat) (lv : List (Nat × Value)) (B : Nat → Nat → Nat), ce ≤ 21 → sl ≤ 142 → N Y l D ((h0, .inr (2, [.ref q, .ref r0, .ref r1])) :: (q, .inl (cy 2, 2, .inr (.inr (.inr (.inr (fun x => some (B x 0))))))) :: (([(r0, .inl (cy 0, 2, .inl (fun _ => 0))), (r1, .inl (cy 1, 2, .inl (fun _ => 0)))] : va_W) ++ scn cy p 2 B)) ce sl 53 lv []) : ∀ (c i : Nat) (B : Nat → Nat → Nat) (f : Nat → Option Nat), i + c = 2 → (∀ x, x < i → f x = some (B x 0)) → N Y l D ((h0, .inr (2, [.ref q, .ref r0, .ref r1])) :: (q, .inl (cy 2, 2, .inr (.inr (.inr (.inr f))))) :: (([(r0, .inl (cy 0, 2, .inl (fun _ => 0))), (r1, .inl (cy 1, 2, .inl (fun _ => 0)))] : va_W) ++ scn cy p i B)) (3 + 9 * i) (6 + 68 * i) 28 [(0, .ref h0), (1, .ref p), (2, .int (nI i))] [] := by
  intro c
  induction c with
  | zero =>
    intro i B f hi hf
    obtain rfl : i = 2 := by omega
    refine n_iload_n (pc := 28) F dX2_init_28 2 rfl rfl ?_
    refine n_iconst (v := 2) (pc := 29) F dX2_init_29 (by decide) ?_
    refine n_icmp_ge (pc := 30) F 53 dX2_init_30 (by decide) (fun _ => ?_) (fun hc => absurd hc (by decide))
    refine n_arr (f2 := fun x => some (B x 0)) hf ?_
    exact hR _ _ _ B (by omega) (by omega)
  | succ c ih =>
    intro i B f hi hf
    refine n_iload_n (pc := 28) F dX2_init_28 2 rfl rfl ?_
    refine n_iconst (v := 2) (pc := 29) F dX2_init_29 (by decide) ?_
    refine n_icmp_ge (pc := 30) F 53 dX2_init_30 (by decide) (fun hc => absurd (show nI i < 2 from nI_lt (b := 2) (by omega) (by omega)) hc) (fun _ => ?_)
    refine n_aload_n (pc := 33) F dX2_init_33 0 rfl rfl ?_
    refine n_get (pc := 34) (v := .ref q) F dX2_init_34 ck_2 fl_2_11 (by decide) rfl ?_
    refine n_iload_n (pc := 37) F dX2_init_37 2 rfl rfl ?_
    refine n_new (pc := 38) (t := 7) F dX2_init_38 ck_7 yn_2_9 hz_7 (by rw [hCE]; omega) (by rw [hSL]; show 6 + 68 * i + 13 ≤ 142; omega) (fun s => ?_)
    refine n_dup (pc := 41) F dX2_init_41 rfl ?_
    refine n_aload_n (pc := 42) F dX2_init_42 1 rfl rfl ?_
    refine n_init (pc := 43) (As := [.ref p]) (st := [.ref s, .int (nI i), .ref q]) F (i_X7 l D cy t6 s p) yi_7 mi_2_25 (by omega) rfl rfl (Nat.le_of_ble_eq_true rfl) dX2_init_43 (by rw [hCE]; omega) (by rw [hSL]; show 6 + 68 * i + 13 + 55 ≤ 142; omega) (fun b hb => ?_)
    refine n_ws (ws2 := (h0, .inr (2, [.ref q, .ref r0, .ref r1])) :: (q, .inl (cy 2, 2, .inr (.inr (.inr (.inr f))))) :: ((([(r0, .inl (cy 0, 2, .inl (fun _ => 0))), (r1, .inl (cy 1, 2, .inl (fun _ => 0)))] : va_W) ++ scn cy p i B) ++ bw cy 7 (fun _ => 0) (fun _ => p) (fun _ => 0) b)) rfl ?_
    refine n_astq (pc := 46) (qk := (([(r0, .inl (cy 0, 2, .inl (fun _ => 0))), (r1, .inl (cy 1, 2, .inl (fun _ => 0)))] : va_W) ++ scn cy p i B).length + 2) (vs := (List.range (nf 7)).map (fun i => match fk 7 i with | (0, _) => .int 0 | (4, _) => .ref p | _ => .ref (b (i + 1)))) F dX2_init_46 ?_ (vp_in_nI (by omega) (by omega)) ?_
    · show ((([(r0, .inl (cy 0, 2, .inl (fun _ => 0))), (r1, .inl (cy 1, 2, .inl (fun _ => 0)))] : va_W) ++ scn cy p i B) ++ bw cy 7 (fun _ => 0) (fun _ => p) (fun _ => 0) b)[(([(r0, .inl (cy 0, 2, .inl (fun _ => 0))), (r1, .inl (cy 1, 2, .inl (fun _ => 0)))] : va_W) ++ scn cy p i B).length]? = _
      rw [List.getElem?_append_right (Nat.le_refl _), Nat.sub_self, ← hb]
      unfold bw
      rw [kB_7]
      rfl
    · rw [nI_clamp (by omega), List.append_assoc, scn_succ]
      refine n_iinc (pc := 47) (v := nI (i + 1)) (lv' := [(2, .int (nI (i + 1))), (0, .ref h0), (1, .ref p)]) F dX2_init_47 2 rfl (nI_succ i).symm hY (by decide) rfl ?_
      refine n_goto (pc := 50) F 28 dX2_init_50 (by decide) ?_
      refine n_lv (lv' := [(0, .ref h0), (1, .ref p), (2, .int (nI (i + 1)))]) [1, 2, 0] rfl ?_
      have := ih (i + 1) (fun x => if x = i then b else B x) (va_up f i (some s)) (by omega) (fun x hx => by
        by_cases e : x = i
        · rw [e, va_up_self, if_pos rfl, hb]
        · rw [va_up_ne _ _ e, if_neg e]
          exact hf x (by omega))
      rw [show 3 + 9 * (i + 1) = 3 + 9 * i + 1 + 8 from by omega, show 6 + 68 * (i + 1) = 6 + 68 * i + 13 + 55 from by omega] at this
      exact this
set_option maxHeartbeats 4000000 in
set_option maxRecDepth 100000 in
/-- RollingCodes$Images: made, with its scenes -/
theorem i_X2 (l : Launch) (D : va_G) (cy : Nat → ClassId) (t6 : Nat → Nat) (h0 p : Nat) : CN l D cy t6 yX2_init cX2_init 3 2 [.ref h0, .ref p] [(h0, .inr (2, zf 2))] (fun u : (Nat → Nat) × (Nat → Nat → Nat) => u.1 0 = h0) (fun u => bw cy 2 (fun _ => 0) (fun _ => 0) (fun x => u.2 x 0) u.1 ++ scn cy p 2 u.2) 21 142 := by
  refine CN.of (by decide +kernel) rfl (Nat.le_of_ble_eq_true rfl) (by omega) (fun Y hY hCE hSL F hNm hR => ?_)
  have F : Nx Y D cy t6 cX2_init RX2 2 := F
  refine n_lv (lv' := [(0, .ref h0), (1, .ref p)]) [0, 1] rfl ?_
  refine n_aload_n (pc := 0) F dX2_init_0 0 rfl rfl ?_
  refine n_obj (pc := 1) F dX2_init_1 oi_2 rfl ?_
  refine n_aload_n (pc := 4) F dX2_init_4 0 rfl rfl ?_
  refine n_iconst (v := 2) (pc := 5) F dX2_init_5 (by decide) ?_
  refine n_newq (N' := 2) (pc := 6) F dX2_init_6 cl_2_9 (by decide) rfl (by omega) (by rw [hCE]; omega) (by rw [hSL]; omega) (fun q => ?_)
  refine n_putF (pc := 9) F hNm (ty0 := .array (.object "RollingCodes$Scene")) dX2_init_9 ck_2 fw_2_11 (by decide) rfl rfl (by decide +kernel) rfl rfl (by (try simp only [List.length_set]); decide) ?_
  refine n_aload_n (pc := 12) F dX2_init_12 0 rfl rfl ?_
  refine n_iconst (v := 2) (pc := 13) F dX2_init_13 (by decide) ?_
  refine n_newI (N' := 2) (pc := 14) F dX2_init_14 (by decide) rfl (by omega) (by rw [hCE]; omega) (by rw [hSL]; omega) (fun r0 => ?_)
  refine n_putF (pc := 16) F hNm (ty0 := .array .int) dX2_init_16 ck_2 fw_2_17 (by decide) rfl rfl (by decide +kernel) rfl rfl (by (try simp only [List.length_set]); decide) ?_
  refine n_aload_n (pc := 19) F dX2_init_19 0 rfl rfl ?_
  refine n_iconst (v := 2) (pc := 20) F dX2_init_20 (by decide) ?_
  refine n_newZ (N' := 2) (pc := 21) F dX2_init_21 (by decide) rfl (by omega) (by rw [hCE]; omega) (by rw [hSL]; omega) (fun r1 => ?_)
  refine n_putF (pc := 23) F hNm (ty0 := .array .boolean) dX2_init_23 ck_2 fw_2_21 (by decide) rfl rfl (by decide +kernel) rfl rfl (by (try simp only [List.length_set]); decide) ?_
  refine n_iconst (v := 0) (pc := 26) F dX2_init_26 (by decide) ?_
  refine n_istore_n (pc := 27) (lv' := [(2, .int 0), (0, .ref h0), (1, .ref p)]) F dX2_init_27 rfl hY (by decide) rfl ?_
  refine n_lv (lv' := [(0, .ref h0), (1, .ref p), (2, .int (nI 0))]) [1, 2, 0] rfl ?_
  refine n_ws (ws2 := (h0, .inr (2, [.ref q, .ref r0, .ref r1])) :: (q, .inl (cy 2, 2, .inr (.inr (.inr (.inr (fun _ => none)))))) :: (([(r0, .inl (cy 0, 2, .inl (fun _ => 0))), (r1, .inl (cy 1, 2, .inl (fun _ => 0)))] : va_W) ++ scn cy p 0 (fun _ _ => 0))) rfl ?_
  refine lp_X2 l D cy t6 h0 p q r0 r1 Y hY hCE hSL F (fun ce sl lv B h1 h2 => ?_) 2 0 (fun _ _ => 0) (fun _ => none) rfl (fun x hx => absurd hx (by omega))
  refine n_ws (ws2 := bw cy 2 (fun _ => 0) (fun _ => 0) (fun x => B x 0) (fun j => match j with | 0 => h0 | 1 => q | 2 => r0 | 3 => r1 | _ => 0) ++ scn cy p 2 B) (by unfold bw; rw [kB_2]; rfl) ?_
  exact hR 53 _ _ _ ((fun j => match j with | 0 => h0 | 1 => q | 2 => r0 | 3 => r1 | _ => 0), B) rfl h1 h2 dX2_init_53
set_option maxHeartbeats 4000000 in
set_option maxRecDepth 100000 in
theorem lp_X6 (l : Launch) (D : va_G) (cy : Nat → ClassId) (t6 : Nat → Nat) (h0 p q : Nat) (r0 : Nat) (Y : Dy) (hY : Y.2.2.2.2.2.2.2.2.2.2.2.1 = 3) (hCE : Y.2.2.2.2.2.2.2.2.2.2.2.2.1 = 38) (hSL : Y.2.2.2.2.2.2.2.2.2.2.2.2.2 = 279) (F : Nx Y D cy t6 cX6_init RX6 2) (hR : ∀ (ce sl : Nat) (lv : List (Nat × Value)) (B : Nat → Nat → Nat), ce ≤ 38 → sl ≤ 279 → N Y l D ((h0, .inr (6, [.ref q, .ref r0])) :: (q, .inl (cy 2, 4, .inr (.inr (.inr (.inr (fun x => some (B x 0))))))) :: (([(r0, .inl (cy 0, 3, .inl (fun _ => 0)))] : va_W) ++ scn cy p 4 B)) ce sl 46 lv []) : ∀ (c i : Nat) (B : Nat → Nat → Nat) (f : Nat → Option Nat), i + c = 4 → (∀ x, x < i → f x = some (B x 0)) → N Y l D ((h0, .inr (6, [.ref q, .ref r0])) :: (q, .inl (cy 2, 4, .inr (.inr (.inr (.inr f))))) :: (([(r0, .inl (cy 0, 3, .inl (fun _ => 0)))] : va_W) ++ scn cy p i B)) (2 + 9 * i) (7 + 68 * i) 21 [(0, .ref h0), (1, .ref p), (2, .int (nI i))] [] := by
  intro c
  induction c with
  | zero =>
    intro i B f hi hf
    obtain rfl : i = 4 := by omega
    refine n_iload_n (pc := 21) F dX6_init_21 2 rfl rfl ?_
    refine n_iconst (v := 3) (pc := 22) F dX6_init_22 (by decide) ?_
    refine n_icmp_gt (pc := 23) F 46 dX6_init_23 (by decide) (fun _ => ?_) (fun hc => absurd hc (by decide))
    refine n_arr (f2 := fun x => some (B x 0)) hf ?_
    exact hR _ _ _ B (by omega) (by omega)
  | succ c ih =>
    intro i B f hi hf
    refine n_iload_n (pc := 21) F dX6_init_21 2 rfl rfl ?_
    refine n_iconst (v := 3) (pc := 22) F dX6_init_22 (by decide) ?_
    refine n_icmp_gt (pc := 23) F 46 dX6_init_23 (by decide) (fun hc => absurd (show nI i ≤ 3 from nI_le (b := 3) (by omega) (by omega)) hc) (fun _ => ?_)
    refine n_aload_n (pc := 26) F dX6_init_26 0 rfl rfl ?_
    refine n_get (pc := 27) (v := .ref q) F dX6_init_27 ck_6 fl_6_11 (by decide) rfl ?_
    refine n_iload_n (pc := 30) F dX6_init_30 2 rfl rfl ?_
    refine n_new (pc := 31) (t := 7) F dX6_init_31 ck_7 yn_6_9 hz_7 (by rw [hCE]; omega) (by rw [hSL]; show 7 + 68 * i + 13 ≤ 279; omega) (fun s => ?_)
    refine n_dup (pc := 34) F dX6_init_34 rfl ?_
    refine n_aload_n (pc := 35) F dX6_init_35 1 rfl rfl ?_
    refine n_init (pc := 36) (As := [.ref p]) (st := [.ref s, .int (nI i), .ref q]) F (i_X7 l D cy t6 s p) yi_7 mi_6_21 (by omega) rfl rfl (Nat.le_of_ble_eq_true rfl) dX6_init_36 (by rw [hCE]; omega) (by rw [hSL]; show 7 + 68 * i + 13 + 55 ≤ 279; omega) (fun b hb => ?_)
    refine n_ws (ws2 := (h0, .inr (6, [.ref q, .ref r0])) :: (q, .inl (cy 2, 4, .inr (.inr (.inr (.inr f))))) :: ((([(r0, .inl (cy 0, 3, .inl (fun _ => 0)))] : va_W) ++ scn cy p i B) ++ bw cy 7 (fun _ => 0) (fun _ => p) (fun _ => 0) b)) rfl ?_
    refine n_astq (pc := 39) (qk := (([(r0, .inl (cy 0, 3, .inl (fun _ => 0)))] : va_W) ++ scn cy p i B).length + 2) (vs := (List.range (nf 7)).map (fun i => match fk 7 i with | (0, _) => .int 0 | (4, _) => .ref p | _ => .ref (b (i + 1)))) F dX6_init_39 ?_ (vp_in_nI (by omega) (by omega)) ?_
    · show ((([(r0, .inl (cy 0, 3, .inl (fun _ => 0)))] : va_W) ++ scn cy p i B) ++ bw cy 7 (fun _ => 0) (fun _ => p) (fun _ => 0) b)[(([(r0, .inl (cy 0, 3, .inl (fun _ => 0)))] : va_W) ++ scn cy p i B).length]? = _
      rw [List.getElem?_append_right (Nat.le_refl _), Nat.sub_self, ← hb]
      unfold bw
      rw [kB_7]
      rfl
    · rw [nI_clamp (by omega), List.append_assoc, scn_succ]
      refine n_iinc (pc := 40) (v := nI (i + 1)) (lv' := [(2, .int (nI (i + 1))), (0, .ref h0), (1, .ref p)]) F dX6_init_40 2 rfl (nI_succ i).symm hY (by decide) rfl ?_
      refine n_goto (pc := 43) F 21 dX6_init_43 (by decide) ?_
      refine n_lv (lv' := [(0, .ref h0), (1, .ref p), (2, .int (nI (i + 1)))]) [1, 2, 0] rfl ?_
      have := ih (i + 1) (fun x => if x = i then b else B x) (va_up f i (some s)) (by omega) (fun x hx => by
        by_cases e : x = i
        · rw [e, va_up_self, if_pos rfl, hb]
        · rw [va_up_ne _ _ e, if_neg e]
          exact hf x (by omega))
      rw [show 2 + 9 * (i + 1) = 2 + 9 * i + 1 + 8 from by omega, show 7 + 68 * (i + 1) = 7 + 68 * i + 13 + 55 from by omega] at this
      exact this
set_option maxHeartbeats 4000000 in
set_option maxRecDepth 100000 in
/-- RollingCodes$RowSearch: made, with its scenes -/
theorem i_X6 (l : Launch) (D : va_G) (cy : Nat → ClassId) (t6 : Nat → Nat) (h0 p : Nat) : CN l D cy t6 yX6_init cX6_init 3 2 [.ref h0, .ref p] [(h0, .inr (6, zf 6))] (fun u : (Nat → Nat) × (Nat → Nat → Nat) => u.1 0 = h0) (fun u => bw cy 6 (fun _ => 0) (fun _ => 0) (fun x => u.2 x 0) u.1 ++ scn cy p 4 u.2) 38 279 := by
  refine CN.of (by decide +kernel) rfl (Nat.le_of_ble_eq_true rfl) (by omega) (fun Y hY hCE hSL F hNm hR => ?_)
  have F : Nx Y D cy t6 cX6_init RX6 2 := F
  refine n_lv (lv' := [(0, .ref h0), (1, .ref p)]) [0, 1] rfl ?_
  refine n_aload_n (pc := 0) F dX6_init_0 0 rfl rfl ?_
  refine n_obj (pc := 1) F dX6_init_1 oi_6 rfl ?_
  refine n_aload_n (pc := 4) F dX6_init_4 0 rfl rfl ?_
  refine n_iconst (v := 4) (pc := 5) F dX6_init_5 (by decide) ?_
  refine n_newq (N' := 4) (pc := 6) F dX6_init_6 cl_6_9 (by decide) rfl (by omega) (by rw [hCE]; omega) (by rw [hSL]; omega) (fun q => ?_)
  refine n_putF (pc := 9) F hNm (ty0 := .array (.object "RollingCodes$Scene")) dX6_init_9 ck_6 fw_6_11 (by decide) rfl rfl (by decide +kernel) rfl rfl (by (try simp only [List.length_set]); decide) ?_
  refine n_aload_n (pc := 12) F dX6_init_12 0 rfl rfl ?_
  refine n_iconst (v := 3) (pc := 13) F dX6_init_13 (by decide) ?_
  refine n_newI (N' := 3) (pc := 14) F dX6_init_14 (by decide) rfl (by omega) (by rw [hCE]; omega) (by rw [hSL]; omega) (fun r0 => ?_)
  refine n_putF (pc := 16) F hNm (ty0 := .array .int) dX6_init_16 ck_6 fw_6_17 (by decide) rfl rfl (by decide +kernel) rfl rfl (by (try simp only [List.length_set]); decide) ?_
  refine n_iconst (v := 0) (pc := 19) F dX6_init_19 (by decide) ?_
  refine n_istore_n (pc := 20) (lv' := [(2, .int 0), (0, .ref h0), (1, .ref p)]) F dX6_init_20 rfl hY (by decide) rfl ?_
  refine n_lv (lv' := [(0, .ref h0), (1, .ref p), (2, .int (nI 0))]) [1, 2, 0] rfl ?_
  refine n_ws (ws2 := (h0, .inr (6, [.ref q, .ref r0])) :: (q, .inl (cy 2, 4, .inr (.inr (.inr (.inr (fun _ => none)))))) :: (([(r0, .inl (cy 0, 3, .inl (fun _ => 0)))] : va_W) ++ scn cy p 0 (fun _ _ => 0))) rfl ?_
  refine lp_X6 l D cy t6 h0 p q r0 Y hY hCE hSL F (fun ce sl lv B h1 h2 => ?_) 4 0 (fun _ _ => 0) (fun _ => none) rfl (fun x hx => absurd hx (by omega))
  refine n_ws (ws2 := bw cy 6 (fun _ => 0) (fun _ => 0) (fun x => B x 0) (fun j => match j with | 0 => h0 | 1 => q | 2 => r0 | _ => 0) ++ scn cy p 4 B) (by unfold bw; rw [kB_6]; rfl) ?_
  exact hR 46 _ _ _ ((fun j => match j with | 0 => h0 | 1 => q | 2 => r0 | _ => 0), B) rfl h1 h2 dX6_init_46
