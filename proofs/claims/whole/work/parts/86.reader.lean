/-! constructors that make objects of their own -/
theorem P_perm {D : va_G} {cl : List vw_C} {ws ws2 : va_W} {H : Heap} (h : List.Perm ws ws2) (hP : va_P D cl ws H) : va_P D cl ws2 H := by
  intro k q hk
  obtain ⟨i, hi⟩ := List.getElem?_of_mem (h.symm.mem_iff.mp (List.mem_of_getElem? hk))
  exact hP i q hi
theorem D_pair {A : Nat → Prop} {ws : va_W} (hD : va_D A ws) : List.Pairwise (fun p q : Nat × va_E => p.1 ≠ q.1) ws := by
  rw [List.pairwise_iff_getElem]
  intro i j hi hj hij e
  have := hD.1 i j ws[i] ws[j] (List.getElem?_eq_getElem hi) (List.getElem?_eq_getElem hj) e
  omega
theorem D_of {A : Nat → Prop} {ws : va_W} (h : List.Pairwise (fun p q : Nat × va_E => p.1 ≠ q.1) ws) (hA : ∀ q ∈ ws, A q.1) : va_D A ws := by
  rw [List.pairwise_iff_getElem] at h
  refine ⟨fun i j p q hi hj e => ?_, fun k q hk => hA q (List.mem_of_getElem? hk)⟩
  obtain ⟨i1, i2⟩ := List.getElem?_eq_some_iff.mp hi
  obtain ⟨j1, j2⟩ := List.getElem?_eq_some_iff.mp hj
  rcases Nat.lt_trichotomy i j with c | c | c
  · exact absurd (by rw [i2, j2]; exact e) (h i j i1 j1 c)
  · exact c
  · exact absurd (by rw [i2, j2]; exact e.symm) (h j i j1 i1 c)
theorem D_perm {A : Nat → Prop} {ws ws2 : va_W} (h : List.Perm ws ws2) (hD : va_D A ws) : va_D A ws2 := by
  refine D_of ((h.pairwise_iff (fun hxy => Ne.symm hxy)).mp (D_pair hD)) (fun q hq => ?_)
  obtain ⟨i, hi⟩ := List.getElem?_of_mem (h.symm.mem_iff.mp hq)
  exact hD.2 i q hi
theorem n_perm {Y : Dy} {l : Launch} {D : va_G} {ws ws2 : va_W} {ce sl pc : Nat} {lv : List (Nat × Value)} {st : List Value} (h : List.Perm ws ws2) (k : N Y l D ws2 ce sl pc lv st) : N Y l D ws ce sl pc lv st := by
  obtain ⟨p, e, R, s, m, args, below, meth, c, Q, A, nL, CE, SL⟩ := Y
  intro H locs ls hP hD hS hl
  exact k H locs ls (P_perm h hP) (D_perm h hD) hS hl
theorem arr_cg {cA : ClassId} {n : Nat} {f f2 : Nat → Option Nat} (h : ∀ x, x < n → f x = f2 x) : vp_cell cA (n, .inr (.inr (.inr (.inr f)))) = vp_cell cA (n, .inr (.inr (.inr (.inr f2)))) := by
  rw [vp_cell_q, vp_cell_q]
  unfold arrV
  have e : (fun j : Fin n => va_rf (f j.val)) = fun j : Fin n => va_rf (f2 j.val) := by
    funext j
    rw [h j.val j.isLt]
  rw [e]
theorem n_arr {Y : Dy} {l : Launch} {D : va_G} {x : Nat × va_E} {a n : Nat} {cA : ClassId} {tl : va_W} {ce sl pc : Nat} {lv : List (Nat × Value)} {st : List Value} {f f2 : Nat → Option Nat} (h : ∀ x, x < n → f x = f2 x) (k : N Y l D (x :: (a, .inl (cA, n, .inr (.inr (.inr (.inr f2))))) :: tl) ce sl pc lv st) : N Y l D (x :: (a, .inl (cA, n, .inr (.inr (.inr (.inr f))))) :: tl) ce sl pc lv st := by
  obtain ⟨p, e, R, s, m, args, below, meth, c, Q, A, nL, CE, SL⟩ := Y
  intro H locs ls hP hD hS hl
  refine k H locs ls (fun k q hk => ?_) (D_of ?_ ?_) hS hl
  · match k, hk with
    | 0, hk => exact hP 0 q hk
    | 1, hk =>
      have e1 : q = (a, .inl (cA, n, .inr (.inr (.inr (.inr f2))))) := (Option.some.inj hk).symm
      have h1 := hP 1 _ rfl
      rw [e1]
      show H[a]? = some (vp_cell cA (n, .inr (.inr (.inr (.inr f2)))))
      rw [← arr_cg h]
      exact h1
    | k + 2, hk => exact hP (k + 2) q hk
  · have h1 := D_pair hD
    rw [List.pairwise_cons, List.pairwise_cons] at h1 ⊢
    refine ⟨fun y hy => ?_, fun y hy => h1.2.1 y hy, h1.2.2⟩
    rcases List.mem_cons.mp hy with e | e
    · rw [e]; exact h1.1 (a, .inl (cA, n, .inr (.inr (.inr (.inr f))))) (List.mem_cons_self ..)
    · exact h1.1 y (List.mem_cons_of_mem _ e)
  · intro q hq
    rcases List.mem_cons.mp hq with e | e
    · rw [e]; exact hD.2 0 x rfl
    · rcases List.mem_cons.mp e with e | e
      · rw [e]; exact hD.2 1 (a, .inl (cA, n, .inr (.inr (.inr (.inr f))))) rfl
      · obtain ⟨i, hi⟩ := List.getElem?_of_mem e
        exact hD.2 (i + 2) q hi
theorem kB_5 : kB 5 = [0, 2] := by decide +kernel
theorem kB_3 : kB 3 = [0, 1] := by decide +kernel
theorem kB_2 : kB 2 = [0, 1, 2, 3] := by decide +kernel
theorem kB_6 : kB 6 = [0, 1, 2] := by decide +kernel
theorem kB_10 : kB 10 = [0] := by decide +kernel
set_option maxHeartbeats 4000000 in
set_option maxRecDepth 100000 in
/-- the reader: made, with its draft -/
theorem i_X5 (l : Launch) (D : va_G) (cy : Nat → ClassId) (t6 : Nat → Nat) (h0 : Nat) : CN l D cy t6 yX5_init cX5_init 1 2 [.ref h0] [(h0, .inr (5, zf 5))] (fun u : (Nat → Nat) × (Nat → Nat) => u.1 0 = h0) (fun u => bw cy 5 (fun _ => 0) (fun _ => u.2 0) (fun _ => 0) u.1 ++ bw cy 4 (fun _ => 0) (fun _ => 0) (fun _ => 0) u.2) 10 55 := by
  refine CN.of (by decide +kernel) rfl (Nat.le_of_ble_eq_true rfl) (by omega) (fun Y hY hCE hSL F hNm hR => ?_)
  have F : Nx Y D cy t6 cX5_init RX5 2 := F
  refine n_lv (lv' := [(0, .ref h0)]) [0] rfl ?_
  refine n_aload_n (pc := 0) F dX5_init_0 0 rfl rfl ?_
  refine n_obj (pc := 1) F dX5_init_1 oi_5 rfl ?_
  refine n_aload_n (pc := 4) F dX5_init_4 0 rfl rfl ?_
  refine n_new (pc := 5) (t := 4) F dX5_init_5 ck_4 yn_5_9 hz_4 (by rw [hCE]; omega) (by rw [hSL]; decide) (fun q => ?_)
  refine n_dup (pc := 8) F dX5_init_8 rfl ?_
  refine n_init (pc := 9) (As := []) (st := [.ref q, .ref h0]) F (i_X4 l D cy t6 q) yi_4 mi_5_11 (by omega) rfl rfl (Nat.le_of_ble_eq_true rfl) dX5_init_9 (by rw [hCE]; omega) (by rw [hSL]; decide) (fun b hb => ?_)
  refine n_ws (ws2 := (h0, .inr (5, zf 5)) :: bw cy 4 (fun _ => 0) (fun _ => 0) (fun _ => 0) b) rfl ?_
  refine n_putF (pc := 12) F hNm (ty0 := .object "RollingCodes$Plan") dX5_init_12 ck_5 fw_5_12 (by decide) rfl rfl (by decide +kernel) rfl rfl (by decide) ?_
  refine n_aload_n (pc := 15) F dX5_init_15 0 rfl rfl ?_
  refine n_iconst (v := 5) (pc := 16) F dX5_init_16 (by decide) ?_
  refine n_newI (N' := 5) (pc := 17) F dX5_init_17 (by decide) rfl (by omega) (by rw [hCE]; omega) (by rw [hSL]; decide) (fun q2 => ?_)
  refine n_ws (ws2 := (h0, .inr (5, (zf 5).set 0 (.ref q))) :: (bw cy 4 (fun _ => 0) (fun _ => 0) (fun _ => 0) b ++ [(q2, .inl (cy 0, 5, .inl (fun _ => 0)))])) rfl ?_
  refine n_putF (pc := 19) F hNm (ty0 := .array .int) dX5_init_19 ck_5 fw_5_18 (by decide) rfl rfl (by decide +kernel) rfl rfl (by (try simp only [List.length_set]); decide) ?_
  refine n_perm (ws2 := bw cy 5 (fun _ => 0) (fun _ => b 0) (fun _ => 0) (fun j => match j with | 0 => h0 | 2 => q2 | _ => 0) ++ bw cy 4 (fun _ => 0) (fun _ => 0) (fun _ => 0) b) ?_ ?_
  · have e : bw cy 5 (fun _ => 0) (fun _ => b 0) (fun _ => 0) (fun j => match j with | 0 => h0 | 2 => q2 | _ => 0) = [(h0, .inr (5, ((zf 5).set 0 (.ref q)).set 1 (.ref q2))), (q2, .inl (cy 0, 5, .inl (fun _ => 0)))] := by
      unfold bw
      rw [kB_5, hb]
      rfl
    rw [e]
    show List.Perm (_ :: (_ ++ [_])) (_ :: (_ :: _))
    exact List.Perm.cons _ (List.perm_append_comm (l₂ := [_]))
  · exact hR 22 _ _ _ ((fun j => match j with | 0 => h0 | 2 => q2 | _ => 0), b) rfl (by decide) (by decide) dX5_init_22
