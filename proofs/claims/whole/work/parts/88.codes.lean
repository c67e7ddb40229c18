/-! the class's constructor -/
def rY (Y : Dy) (ce sl : Nat) : Dy := match Y with
  | (p, e, R, s, m, args, below, meth, c, Q, A, nL, _, _) => (p, e, R, s, m, args, below, meth, c, Q, A, nL, ce, sl)
theorem n_U {Y : Dy} {l : Launch} {D : va_G} {cy : Nat → ClassId} {t6 : Nat → Nat} {cc : ByteArray} {own : String} {dd ce sl pc : Nat} {ws : va_W} {lv : List (Nat × Value)} {st : List Value} (F : Nx Y D cy t6 cc own dd) {L : List Key} {ad : Key → Nat} {σ : Mem} (hws : ws = wl L ad (Ev ad cy σ)) (hce : ce ≤ Y.2.2.2.2.2.2.2.2.2.2.2.2.1) (hsl : sl ≤ Y.2.2.2.2.2.2.2.2.2.2.2.2.2) (k : Fx (rY Y ce sl) (l, D, cy, L, ad, t6) cc own dd → U (rY Y ce sl) (l, D, cy, L, ad, t6) σ pc lv st) : N Y l D ws ce sl pc lv st := by
  obtain ⟨p, e, R, s, m, args, below, meth, c, Q, A, nL, CE, SL⟩ := Y
  obtain ⟨hx, hb, hml, hown, hts, hnb, hK, hA, hlk, hR, hAO, hZ⟩ := F
  have h1 : ce ≤ CE := hce
  have h2 : sl ≤ SL := hsl
  subst hws
  intro H locs ls hP hD hS hl
  exact k ⟨hx, hb, hml, hown, hts, hnb, hK, hA, hlk, ⟨hR.1, hR.2.1, by omega, by omega⟩, hZ⟩ H locs ls hP hD hS hl
theorem U_of_N {Y : Dy} {l : Launch} {D : va_G} {cy : Nat → ClassId} {t6 : Nat → Nat} {L : List Key} {ad : Key → Nat} {σ : Mem} {ce sl pc : Nat} {lv : List (Nat × Value)} {st : List Value} (h : N Y l D (wl L ad (Ev ad cy σ)) ce sl pc lv st) : U (rY Y ce sl) (l, D, cy, L, ad, t6) σ pc lv st := by
  obtain ⟨p, e, R, s, m, args, below, meth, c, Q, A, nL, CE, SL⟩ := Y
  exact h
/-- worlds that say the same of every heap -/
def Wq (D : va_G) (ws ws2 : va_W) : Prop := (∀ H, va_P D vwCl ws H → va_P D vwCl ws2 H) ∧ ws.map Prod.fst = ws2.map Prod.fst
theorem Wq.of {D : va_G} {ws ws2 : va_W} (h : ws = ws2) : Wq D ws ws2 := by subst h; exact ⟨fun _ h => h, rfl⟩
theorem Wq.app {D : va_G} {a b a2 b2 : va_W} (h1 : Wq D a a2) (h2 : Wq D b b2) : Wq D (a ++ b) (a2 ++ b2) := by
  refine ⟨fun H h => va_P.app (h1.1 H (fun k q hk => ?_)) (h2.1 H (fun k q hk => ?_)), by rw [List.map_append, List.map_append, h1.2, h2.2]⟩
  · exact h k q (by rw [List.getElem?_append_left (List.getElem?_eq_some_iff.mp hk).1]; exact hk)
  · exact h (a.length + k) q (by rw [List.getElem?_append_right (by omega), Nat.add_sub_cancel_left]; exact hk)
theorem n_eqv {Y : Dy} {l : Launch} {D : va_G} {ws ws2 : va_W} {ce sl pc : Nat} {lv : List (Nat × Value)} {st : List Value} (h : Wq D ws ws2) (k : N Y l D ws2 ce sl pc lv st) : N Y l D ws ce sl pc lv st := by
  obtain ⟨p, e, R, s, m, args, below, meth, c, Q, A, nL, CE, SL⟩ := Y
  intro H locs ls hP hD hS hl
  refine k H locs ls (h.1 H hP) (D_of ?_ (fun q hq => ?_)) hS hl
  · have h1 := D_pair hD
    have h2 : (ws.map Prod.fst).Pairwise (fun a b : Nat => a ≠ b) := List.pairwise_map.mpr h1
    rw [h.2] at h2
    exact List.pairwise_map.mp h2
  · have h1 : q.1 ∈ ws2.map Prod.fst := List.mem_map_of_mem hq
    rw [← h.2] at h1
    obtain ⟨x, hx, e⟩ := List.mem_map.mp h1
    obtain ⟨i, hi⟩ := List.getElem?_of_mem hx
    rw [← e]
    exact hD.2 i x hi
theorem Wq.arr {D : va_G} {a n : Nat} {cA : ClassId} {f f2 : Nat → Option Nat} (h : ∀ x, x < n → f x = f2 x) : Wq D [(a, .inl (cA, n, .inr (.inr (.inr (.inr f)))))] [(a, .inl (cA, n, .inr (.inr (.inr (.inr f2)))))] := by
  refine ⟨fun H hP k q hk => ?_, rfl⟩
  match k, hk with
  | 0, hk =>
    have e1 : q = (a, .inl (cA, n, .inr (.inr (.inr (.inr f2))))) := (Option.some.inj hk).symm
    have h1 := hP 0 _ rfl
    rw [e1]
    show H[a]? = some (vp_cell cA (n, .inr (.inr (.inr (.inr f2)))))
    rw [← arr_cg h]
    exact h1
theorem fk_lt {t i : Nat} (h : ¬ (fk t i).1 = 0) : i < 46 := by
  unfold fk at h
  split at h <;> first | exact absurd rfl h | omega
theorem okj_kB {t j : Nat} (h : okj t j = true) : j ∈ kB t := by
  refine List.mem_filter.mpr ⟨List.mem_range.mpr ?_, h⟩
  cases j with
  | zero => omega
  | succ i =>
    have : ¬ (fk t i).1 = 0 := by
      intro e
      simp only [okj, e] at h
      exact absurd h (by decide)
    have := fk_lt this
    omega
def kk (t k : Nat) : List Key := (kB t).map (fun j => (t, k, j))
def k7 (b n : Nat) : List Key := (List.range n).flatMap (fun x => kk 7 (b + x))
def LX : List Key := kk 10 0 ++ ((((((((((kk 9 0 ++ (kk 5 0 ++ kk 4 1)) ++ kk 4 0) ++ kk 7 0) ++ kk 7 1) ++ (kk 3 0 ++ k7 2 16)) ++ (kk 2 0 ++ k7 18 2)) ++ (kk 6 0 ++ k7 20 4)) ++ kk 8 0) ++ kk 0 0) ++ kk 1 0)
theorem kk_mem {t k j : Nat} (h : okj t j = true) : (t, k, j) ∈ kk t k := List.mem_map.mpr ⟨j, okj_kB h, rfl⟩
theorem k7_mem {b n k j : Nat} (h : okj 7 j = true) (h1 : b ≤ k) (h2 : k < b + n) : (7, k, j) ∈ k7 b n := List.mem_flatMap.mpr ⟨k - b, List.mem_range.mpr (by omega), by rw [show b + (k - b) = k from by omega]; exact kk_mem h⟩
theorem LX_mem {t k j : Nat} (hk : k < cnt t) (h : okj t j = true) : (t, k, j) ∈ LX := by
  unfold LX
  simp only [List.mem_append]
  match t, hk with
  | 0, hk => obtain rfl : k = 0 := by simp only [cnt] at hk; omega
             simp only [kk_mem h, or_true, true_or]
  | 1, hk => obtain rfl : k = 0 := by simp only [cnt] at hk; omega
             simp only [kk_mem h, or_true, true_or]
  | 2, hk => obtain rfl : k = 0 := by simp only [cnt] at hk; omega
             simp only [kk_mem h, or_true, true_or]
  | 3, hk => obtain rfl : k = 0 := by simp only [cnt] at hk; omega
             simp only [kk_mem h, or_true, true_or]
  | 4, hk =>
    have : k = 0 ∨ k = 1 := by simp only [cnt] at hk; omega
    rcases this with rfl | rfl <;> simp only [kk_mem h, or_true, true_or]
  | 5, hk => obtain rfl : k = 0 := by simp only [cnt] at hk; omega
             simp only [kk_mem h, or_true, true_or]
  | 6, hk => obtain rfl : k = 0 := by simp only [cnt] at hk; omega
             simp only [kk_mem h, or_true, true_or]
  | 7, hk =>
    have hk : k < 24 := hk
    by_cases e0 : k = 0
    · subst e0; simp only [kk_mem h, or_true, true_or]
    by_cases e1 : k = 1
    · subst e1; simp only [kk_mem h, or_true, true_or]
    by_cases e2 : k < 18
    · have := k7_mem (b := 2) (n := 16) h (show 2 ≤ k by omega) (by omega)
      simp only [this, or_true, true_or]
    by_cases e3 : k < 20
    · have := k7_mem (b := 18) (n := 2) h (show 18 ≤ k by omega) (by omega)
      simp only [this, or_true, true_or]
    · have := k7_mem (b := 20) (n := 4) h (show 20 ≤ k by omega) (by omega)
      simp only [this, or_true, true_or]
  | 8, hk => obtain rfl : k = 0 := by simp only [cnt] at hk; omega
             simp only [kk_mem h, or_true, true_or]
  | 9, hk => obtain rfl : k = 0 := by simp only [cnt] at hk; omega
             simp only [kk_mem h, or_true, true_or]
  | 10, hk => obtain rfl : k = 0 := by simp only [cnt] at hk; omega
              simp only [kk_mem h, or_true, true_or]
  | t + 11, hk => exact absurd hk (by simp [cnt])
def σX : Mem := fun t _ j i => if t = 10 ∧ j = 0 ∧ i = 11 then -1 else 0
def scB : Grp := (fX7_begin (fun _ _ => 0) (fun _ _ => 0)).getD (fun _ _ => 0)
def seB : Grp := (fX8_clear (fun _ _ => 0)).getD (fun _ _ => 0)
def σB : Mem := upM (upM σX 7 0 scB) 8 0 seB
theorem scB_ok : fX7_begin (fun _ _ => 0) (fun _ _ => 0) = some scB := by
  obtain ⟨sc, h, _⟩ := c_begin (fun _ _ => 0) (fun _ _ => 0)
  unfold scB
  rw [h]
  rfl
theorem seB_ok : fX8_clear (fun _ _ => 0) = some seB := by
  obtain ⟨sc, h, _⟩ := c_clear (fun _ _ => 0)
  unfold seB
  rw [h]
  rfl
theorem σX_0 {t : Nat} (h : ¬ t = 10) (k : Nat) : σX t k = fun _ _ => 0 := by
  funext j i
  simp [σX, h]
theorem kk_w {ad : Key → Nat} {cy : Nat → ClassId} {σ : Mem} {t k : Nat} (hz : ∀ i, σ t k (i + 1) = fun _ => 0) : (kk t k).map (fun q => (ad q, Ev ad cy σ q)) = bw cy t (σ t k 0) (fun i => ad (fo t i)) (fun x => ad (7, so t + x, 0)) (fun j => ad (t, k, j)) := by
  unfold kk bw
  rw [List.map_map]
  refine List.map_congr_left (fun j _ => ?_)
  cases j with
  | zero => rfl
  | succ i =>
    show (ad (t, k, i + 1), Ev ad cy σ (t, k, i + 1)) = _
    first
      | (simp only [Ev, eB, hz]; done)
      | (simp only [Ev, eB, hz]
         generalize fk t i = p
         obtain ⟨a, n⟩ := p
         rcases a with _ | _ | _ | a <;> rfl)
theorem k7_w {ad : Key → Nat} {cy : Nat → ClassId} {σ : Mem} {b n : Nat} (hz : ∀ k, σ 7 k = fun _ _ => 0) : (k7 b n).map (fun q => (ad q, Ev ad cy σ q)) = scn cy (ad (4, 0, 0)) n (fun x j => ad (7, b + x, j)) := by
  unfold k7 scn
  rw [List.map_flatMap]
  refine flatMap_cg (fun x _ => ?_)
  rw [kk_w (fun i => by rw [hz]), hz]
  unfold bw
  rw [kB_7]
  rfl
set_option maxHeartbeats 8000000 in
set_option maxRecDepth 100000 in
/-- RollingCodes: made -/
theorem i_X10 (l : Launch) (D : va_G) (cy : Nat → ClassId) (t6 : Nat → Nat) (h0 : Nat) : CN l D cy t6 yX10_init cX10_init 1 10 [.ref h0] [(h0, .inr (10, zf 10))] (fun ad : Key → Nat => ad (10, 0, 0) = h0) (fun ad => wl LX ad (Ev ad cy σB)) 254 2823 := by
  refine CN.of (by decide +kernel) rfl (Nat.le_of_ble_eq_true rfl) (by omega) (fun Y hY hCE hSL F hNm hR => ?_)
  have F : Nx Y D cy t6 cX10_init RX10 10 := F
  refine n_lv (lv' := [(0, .ref h0)]) [0] rfl ?_
  refine n_aload_n (pc := 0) F dX10_init_0 0 rfl rfl ?_
  refine n_obj (pc := 1) F dX10_init_1 oi_10 rfl ?_
  refine n_ws (ws2 := (h0, .inr (10, [.null, .null, .null, .null, .null, .null, .null, .null, .null, .null, .null, .int 0])) :: []) rfl ?_
  refine n_aload_n (pc := 4) F dX10_init_4 0 rfl rfl ?_
  refine n_new (pc := 5) (t := 9) F dX10_init_5 ck_9 yn_10_7 hz_9 (by rw [hCE]; decide) (by rw [hSL]; decide) (fun g0 => ?_)
  refine n_dup (pc := 8) F dX10_init_8 rfl ?_
  refine n_init (pc := 9) (As := []) (st := [.ref g0, .ref h0]) F (i_X9 l D cy t6 g0) yi_9 mi_10_9 (by omega) rfl rfl (Nat.le_of_ble_eq_true rfl) dX10_init_9 (by rw [hCE]; decide) (by rw [hSL]; decide) (fun u0 v0 => ?_)
  refine n_ws (ws2 := (h0, .inr (10, [.null, .null, .null, .null, .null, .null, .null, .null, .null, .null, .null, .int 0])) :: bw cy 9 (fun _ => 0) (fun _ => 0) (fun _ => 0) u0) rfl ?_
  refine n_putF (pc := 12) F hNm (ty0 := .object "RollingCodes$Text") dX10_init_12 ck_10 fw_10_10 (by decide) rfl rfl (by decide +kernel) rfl rfl (show 0 < 12 by decide) ?_
  refine n_ws (ws2 := (h0, .inr (10, [.ref g0, .null, .null, .null, .null, .null, .null, .null, .null, .null, .null, .int 0])) :: bw cy 9 (fun _ => 0) (fun _ => 0) (fun _ => 0) u0) rfl ?_
  refine n_aload_n (pc := 15) F dX10_init_15 0 rfl rfl ?_
  refine n_new (pc := 16) (t := 5) F dX10_init_16 ck_5 yn_10_16 hz_5 (by rw [hCE]; decide) (by rw [hSL]; decide) (fun g1 => ?_)
  refine n_dup (pc := 19) F dX10_init_19 rfl ?_
  refine n_init (pc := 20) (As := []) (st := [.ref g1, .ref h0]) F (i_X5 l D cy t6 g1) yi_5 mi_10_18 (by omega) rfl rfl (Nat.le_of_ble_eq_true rfl) dX10_init_20 (by rw [hCE]; decide) (by rw [hSL]; decide) (fun u1 v1 => ?_)
  refine n_ws (ws2 := (h0, .inr (10, [.ref g0, .null, .null, .null, .null, .null, .null, .null, .null, .null, .null, .int 0])) :: (bw cy 9 (fun _ => 0) (fun _ => 0) (fun _ => 0) u0 ++ (bw cy 5 (fun _ => 0) (fun _ => u1.2 0) (fun _ => 0) u1.1 ++ bw cy 4 (fun _ => 0) (fun _ => 0) (fun _ => 0) u1.2))) rfl ?_
  refine n_putF (pc := 23) F hNm (ty0 := .object "RollingCodes$Reader") dX10_init_23 ck_10 fw_10_19 (by decide) rfl rfl (by decide +kernel) rfl rfl (show 1 < 12 by decide) ?_
  refine n_ws (ws2 := (h0, .inr (10, [.ref g0, .ref g1, .null, .null, .null, .null, .null, .null, .null, .null, .null, .int 0])) :: (bw cy 9 (fun _ => 0) (fun _ => 0) (fun _ => 0) u0 ++ (bw cy 5 (fun _ => 0) (fun _ => u1.2 0) (fun _ => 0) u1.1 ++ bw cy 4 (fun _ => 0) (fun _ => 0) (fun _ => 0) u1.2))) rfl ?_
  refine n_aload_n (pc := 26) F dX10_init_26 0 rfl rfl ?_
  refine n_new (pc := 27) (t := 4) F dX10_init_27 ck_4 yn_10_23 hz_4 (by rw [hCE]; decide) (by rw [hSL]; decide) (fun g2 => ?_)
  refine n_dup (pc := 30) F dX10_init_30 rfl ?_
  refine n_init (pc := 31) (As := []) (st := [.ref g2, .ref h0]) F (i_X4 l D cy t6 g2) yi_4 mi_10_25 (by omega) rfl rfl (Nat.le_of_ble_eq_true rfl) dX10_init_31 (by rw [hCE]; decide) (by rw [hSL]; decide) (fun u2 v2 => ?_)
  refine n_ws (ws2 := (h0, .inr (10, [.ref g0, .ref g1, .null, .null, .null, .null, .null, .null, .null, .null, .null, .int 0])) :: ((bw cy 9 (fun _ => 0) (fun _ => 0) (fun _ => 0) u0 ++ (bw cy 5 (fun _ => 0) (fun _ => u1.2 0) (fun _ => 0) u1.1 ++ bw cy 4 (fun _ => 0) (fun _ => 0) (fun _ => 0) u1.2)) ++ bw cy 4 (fun _ => 0) (fun _ => 0) (fun _ => 0) u2)) rfl ?_
  refine n_putF (pc := 34) F hNm (ty0 := .object "RollingCodes$Plan") dX10_init_34 ck_10 fw_10_26 (by decide) rfl rfl (by decide +kernel) rfl rfl (show 2 < 12 by decide) ?_
  refine n_ws (ws2 := (h0, .inr (10, [.ref g0, .ref g1, .ref g2, .null, .null, .null, .null, .null, .null, .null, .null, .int 0])) :: ((bw cy 9 (fun _ => 0) (fun _ => 0) (fun _ => 0) u0 ++ (bw cy 5 (fun _ => 0) (fun _ => u1.2 0) (fun _ => 0) u1.1 ++ bw cy 4 (fun _ => 0) (fun _ => 0) (fun _ => 0) u1.2)) ++ bw cy 4 (fun _ => 0) (fun _ => 0) (fun _ => 0) u2)) rfl ?_
  refine n_aload_n (pc := 37) F dX10_init_37 0 rfl rfl ?_
  refine n_new (pc := 38) (t := 7) F dX10_init_38 ck_7 yn_10_30 hz_7 (by rw [hCE]; decide) (by rw [hSL]; decide) (fun g3 => ?_)
  refine n_dup (pc := 41) F dX10_init_41 rfl ?_
  refine n_aload_n (pc := 42) F dX10_init_42 0 rfl rfl ?_
  refine n_ws (ws2 := (h0, .inr (10, [.ref g0, .ref g1, .ref g2, .null, .null, .null, .null, .null, .null, .null, .null, .int 0])) :: (((bw cy 9 (fun _ => 0) (fun _ => 0) (fun _ => 0) u0 ++ (bw cy 5 (fun _ => 0) (fun _ => u1.2 0) (fun _ => 0) u1.1 ++ bw cy 4 (fun _ => 0) (fun _ => 0) (fun _ => 0) u1.2)) ++ bw cy 4 (fun _ => 0) (fun _ => 0) (fun _ => 0) u2) ++ [(g3, .inr (7, zf 7))])) rfl ?_
  refine n_get (pc := 43) (v := .ref g2) F dX10_init_43 ck_10 fl_10_26 (by decide) rfl ?_
  refine n_ws (ws2 := ((h0, .inr (10, [.ref g0, .ref g1, .ref g2, .null, .null, .null, .null, .null, .null, .null, .null, .int 0])) :: ((bw cy 9 (fun _ => 0) (fun _ => 0) (fun _ => 0) u0 ++ (bw cy 5 (fun _ => 0) (fun _ => u1.2 0) (fun _ => 0) u1.1 ++ bw cy 4 (fun _ => 0) (fun _ => 0) (fun _ => 0) u1.2)) ++ bw cy 4 (fun _ => 0) (fun _ => 0) (fun _ => 0) u2)) ++ [(g3, .inr (7, zf 7))]) rfl ?_
  refine n_init (pc := 46) (As := [.ref g2]) (st := [.ref g3, .ref h0]) F (i_X7 l D cy t6 g3 g2) yi_7 mi_10_32 (by omega) rfl rfl (Nat.le_of_ble_eq_true rfl) dX10_init_46 (by rw [hCE]; decide) (by rw [hSL]; decide) (fun u3 v3 => ?_)
  refine n_ws (ws2 := (h0, .inr (10, [.ref g0, .ref g1, .ref g2, .null, .null, .null, .null, .null, .null, .null, .null, .int 0])) :: (((bw cy 9 (fun _ => 0) (fun _ => 0) (fun _ => 0) u0 ++ (bw cy 5 (fun _ => 0) (fun _ => u1.2 0) (fun _ => 0) u1.1 ++ bw cy 4 (fun _ => 0) (fun _ => 0) (fun _ => 0) u1.2)) ++ bw cy 4 (fun _ => 0) (fun _ => 0) (fun _ => 0) u2) ++ bw cy 7 (fun _ => 0) (fun _ => g2) (fun _ => 0) u3)) rfl ?_
  refine n_putF (pc := 49) F hNm (ty0 := .object "RollingCodes$Scene") dX10_init_49 ck_10 fw_10_35 (by decide) rfl rfl (by decide +kernel) rfl rfl (show 3 < 12 by decide) ?_
  refine n_ws (ws2 := (h0, .inr (10, [.ref g0, .ref g1, .ref g2, .ref g3, .null, .null, .null, .null, .null, .null, .null, .int 0])) :: (((bw cy 9 (fun _ => 0) (fun _ => 0) (fun _ => 0) u0 ++ (bw cy 5 (fun _ => 0) (fun _ => u1.2 0) (fun _ => 0) u1.1 ++ bw cy 4 (fun _ => 0) (fun _ => 0) (fun _ => 0) u1.2)) ++ bw cy 4 (fun _ => 0) (fun _ => 0) (fun _ => 0) u2) ++ bw cy 7 (fun _ => 0) (fun _ => g2) (fun _ => 0) u3)) rfl ?_
  refine n_aload_n (pc := 52) F dX10_init_52 0 rfl rfl ?_
  refine n_new (pc := 53) (t := 7) F dX10_init_53 ck_7 yn_10_30 hz_7 (by rw [hCE]; decide) (by rw [hSL]; decide) (fun g4 => ?_)
  refine n_dup (pc := 56) F dX10_init_56 rfl ?_
  refine n_aload_n (pc := 57) F dX10_init_57 0 rfl rfl ?_
  refine n_ws (ws2 := (h0, .inr (10, [.ref g0, .ref g1, .ref g2, .ref g3, .null, .null, .null, .null, .null, .null, .null, .int 0])) :: ((((bw cy 9 (fun _ => 0) (fun _ => 0) (fun _ => 0) u0 ++ (bw cy 5 (fun _ => 0) (fun _ => u1.2 0) (fun _ => 0) u1.1 ++ bw cy 4 (fun _ => 0) (fun _ => 0) (fun _ => 0) u1.2)) ++ bw cy 4 (fun _ => 0) (fun _ => 0) (fun _ => 0) u2) ++ bw cy 7 (fun _ => 0) (fun _ => g2) (fun _ => 0) u3) ++ [(g4, .inr (7, zf 7))])) rfl ?_
  refine n_get (pc := 58) (v := .ref g2) F dX10_init_58 ck_10 fl_10_26 (by decide) rfl ?_
  refine n_ws (ws2 := ((h0, .inr (10, [.ref g0, .ref g1, .ref g2, .ref g3, .null, .null, .null, .null, .null, .null, .null, .int 0])) :: (((bw cy 9 (fun _ => 0) (fun _ => 0) (fun _ => 0) u0 ++ (bw cy 5 (fun _ => 0) (fun _ => u1.2 0) (fun _ => 0) u1.1 ++ bw cy 4 (fun _ => 0) (fun _ => 0) (fun _ => 0) u1.2)) ++ bw cy 4 (fun _ => 0) (fun _ => 0) (fun _ => 0) u2) ++ bw cy 7 (fun _ => 0) (fun _ => g2) (fun _ => 0) u3)) ++ [(g4, .inr (7, zf 7))]) rfl ?_
  refine n_init (pc := 61) (As := [.ref g2]) (st := [.ref g4, .ref h0]) F (i_X7 l D cy t6 g4 g2) yi_7 mi_10_32 (by omega) rfl rfl (Nat.le_of_ble_eq_true rfl) dX10_init_61 (by rw [hCE]; decide) (by rw [hSL]; decide) (fun u4 v4 => ?_)
  refine n_ws (ws2 := (h0, .inr (10, [.ref g0, .ref g1, .ref g2, .ref g3, .null, .null, .null, .null, .null, .null, .null, .int 0])) :: ((((bw cy 9 (fun _ => 0) (fun _ => 0) (fun _ => 0) u0 ++ (bw cy 5 (fun _ => 0) (fun _ => u1.2 0) (fun _ => 0) u1.1 ++ bw cy 4 (fun _ => 0) (fun _ => 0) (fun _ => 0) u1.2)) ++ bw cy 4 (fun _ => 0) (fun _ => 0) (fun _ => 0) u2) ++ bw cy 7 (fun _ => 0) (fun _ => g2) (fun _ => 0) u3) ++ bw cy 7 (fun _ => 0) (fun _ => g2) (fun _ => 0) u4)) rfl ?_
  refine n_putF (pc := 64) F hNm (ty0 := .object "RollingCodes$Scene") dX10_init_64 ck_10 fw_10_39 (by decide) rfl rfl (by decide +kernel) rfl rfl (show 4 < 12 by decide) ?_
  refine n_ws (ws2 := (h0, .inr (10, [.ref g0, .ref g1, .ref g2, .ref g3, .ref g4, .null, .null, .null, .null, .null, .null, .int 0])) :: ((((bw cy 9 (fun _ => 0) (fun _ => 0) (fun _ => 0) u0 ++ (bw cy 5 (fun _ => 0) (fun _ => u1.2 0) (fun _ => 0) u1.1 ++ bw cy 4 (fun _ => 0) (fun _ => 0) (fun _ => 0) u1.2)) ++ bw cy 4 (fun _ => 0) (fun _ => 0) (fun _ => 0) u2) ++ bw cy 7 (fun _ => 0) (fun _ => g2) (fun _ => 0) u3) ++ bw cy 7 (fun _ => 0) (fun _ => g2) (fun _ => 0) u4)) rfl ?_
  refine n_aload_n (pc := 67) F dX10_init_67 0 rfl rfl ?_
  refine n_new (pc := 68) (t := 3) F dX10_init_68 ck_3 yn_10_42 hz_3 (by rw [hCE]; decide) (by rw [hSL]; decide) (fun g5 => ?_)
  refine n_dup (pc := 71) F dX10_init_71 rfl ?_
  refine n_aload_n (pc := 72) F dX10_init_72 0 rfl rfl ?_
  refine n_ws (ws2 := (h0, .inr (10, [.ref g0, .ref g1, .ref g2, .ref g3, .ref g4, .null, .null, .null, .null, .null, .null, .int 0])) :: (((((bw cy 9 (fun _ => 0) (fun _ => 0) (fun _ => 0) u0 ++ (bw cy 5 (fun _ => 0) (fun _ => u1.2 0) (fun _ => 0) u1.1 ++ bw cy 4 (fun _ => 0) (fun _ => 0) (fun _ => 0) u1.2)) ++ bw cy 4 (fun _ => 0) (fun _ => 0) (fun _ => 0) u2) ++ bw cy 7 (fun _ => 0) (fun _ => g2) (fun _ => 0) u3) ++ bw cy 7 (fun _ => 0) (fun _ => g2) (fun _ => 0) u4) ++ [(g5, .inr (3, zf 3))])) rfl ?_
  refine n_get (pc := 73) (v := .ref g2) F dX10_init_73 ck_10 fl_10_26 (by decide) rfl ?_
  refine n_ws (ws2 := ((h0, .inr (10, [.ref g0, .ref g1, .ref g2, .ref g3, .ref g4, .null, .null, .null, .null, .null, .null, .int 0])) :: ((((bw cy 9 (fun _ => 0) (fun _ => 0) (fun _ => 0) u0 ++ (bw cy 5 (fun _ => 0) (fun _ => u1.2 0) (fun _ => 0) u1.1 ++ bw cy 4 (fun _ => 0) (fun _ => 0) (fun _ => 0) u1.2)) ++ bw cy 4 (fun _ => 0) (fun _ => 0) (fun _ => 0) u2) ++ bw cy 7 (fun _ => 0) (fun _ => g2) (fun _ => 0) u3) ++ bw cy 7 (fun _ => 0) (fun _ => g2) (fun _ => 0) u4)) ++ [(g5, .inr (3, zf 3))]) rfl ?_
  refine n_init (pc := 76) (As := [.ref g2]) (st := [.ref g5, .ref h0]) F (i_X3 l D cy t6 g5 g2) yi_3 mi_10_44 (by omega) rfl rfl (Nat.le_of_ble_eq_true rfl) dX10_init_76 (by rw [hCE]; decide) (by rw [hSL]; decide) (fun u5 v5 => ?_)
  refine n_ws (ws2 := (h0, .inr (10, [.ref g0, .ref g1, .ref g2, .ref g3, .ref g4, .null, .null, .null, .null, .null, .null, .int 0])) :: (((((bw cy 9 (fun _ => 0) (fun _ => 0) (fun _ => 0) u0 ++ (bw cy 5 (fun _ => 0) (fun _ => u1.2 0) (fun _ => 0) u1.1 ++ bw cy 4 (fun _ => 0) (fun _ => 0) (fun _ => 0) u1.2)) ++ bw cy 4 (fun _ => 0) (fun _ => 0) (fun _ => 0) u2) ++ bw cy 7 (fun _ => 0) (fun _ => g2) (fun _ => 0) u3) ++ bw cy 7 (fun _ => 0) (fun _ => g2) (fun _ => 0) u4) ++ (bw cy 3 (fun _ => 0) (fun _ => 0) (fun x => u5.2 x 0) u5.1 ++ scn cy g2 16 u5.2))) rfl ?_
  refine n_putF (pc := 79) F hNm (ty0 := .object "RollingCodes$Past") dX10_init_79 ck_10 fw_10_45 (by decide) rfl rfl (by decide +kernel) rfl rfl (show 5 < 12 by decide) ?_
  refine n_ws (ws2 := (h0, .inr (10, [.ref g0, .ref g1, .ref g2, .ref g3, .ref g4, .ref g5, .null, .null, .null, .null, .null, .int 0])) :: (((((bw cy 9 (fun _ => 0) (fun _ => 0) (fun _ => 0) u0 ++ (bw cy 5 (fun _ => 0) (fun _ => u1.2 0) (fun _ => 0) u1.1 ++ bw cy 4 (fun _ => 0) (fun _ => 0) (fun _ => 0) u1.2)) ++ bw cy 4 (fun _ => 0) (fun _ => 0) (fun _ => 0) u2) ++ bw cy 7 (fun _ => 0) (fun _ => g2) (fun _ => 0) u3) ++ bw cy 7 (fun _ => 0) (fun _ => g2) (fun _ => 0) u4) ++ (bw cy 3 (fun _ => 0) (fun _ => 0) (fun x => u5.2 x 0) u5.1 ++ scn cy g2 16 u5.2))) rfl ?_
  refine n_aload_n (pc := 82) F dX10_init_82 0 rfl rfl ?_
  refine n_new (pc := 83) (t := 2) F dX10_init_83 ck_2 yn_10_49 hz_2 (by rw [hCE]; decide) (by rw [hSL]; decide) (fun g6 => ?_)
  refine n_dup (pc := 86) F dX10_init_86 rfl ?_
  refine n_aload_n (pc := 87) F dX10_init_87 0 rfl rfl ?_
  refine n_ws (ws2 := (h0, .inr (10, [.ref g0, .ref g1, .ref g2, .ref g3, .ref g4, .ref g5, .null, .null, .null, .null, .null, .int 0])) :: ((((((bw cy 9 (fun _ => 0) (fun _ => 0) (fun _ => 0) u0 ++ (bw cy 5 (fun _ => 0) (fun _ => u1.2 0) (fun _ => 0) u1.1 ++ bw cy 4 (fun _ => 0) (fun _ => 0) (fun _ => 0) u1.2)) ++ bw cy 4 (fun _ => 0) (fun _ => 0) (fun _ => 0) u2) ++ bw cy 7 (fun _ => 0) (fun _ => g2) (fun _ => 0) u3) ++ bw cy 7 (fun _ => 0) (fun _ => g2) (fun _ => 0) u4) ++ (bw cy 3 (fun _ => 0) (fun _ => 0) (fun x => u5.2 x 0) u5.1 ++ scn cy g2 16 u5.2)) ++ [(g6, .inr (2, zf 2))])) rfl ?_
  refine n_get (pc := 88) (v := .ref g2) F dX10_init_88 ck_10 fl_10_26 (by decide) rfl ?_
  refine n_ws (ws2 := ((h0, .inr (10, [.ref g0, .ref g1, .ref g2, .ref g3, .ref g4, .ref g5, .null, .null, .null, .null, .null, .int 0])) :: (((((bw cy 9 (fun _ => 0) (fun _ => 0) (fun _ => 0) u0 ++ (bw cy 5 (fun _ => 0) (fun _ => u1.2 0) (fun _ => 0) u1.1 ++ bw cy 4 (fun _ => 0) (fun _ => 0) (fun _ => 0) u1.2)) ++ bw cy 4 (fun _ => 0) (fun _ => 0) (fun _ => 0) u2) ++ bw cy 7 (fun _ => 0) (fun _ => g2) (fun _ => 0) u3) ++ bw cy 7 (fun _ => 0) (fun _ => g2) (fun _ => 0) u4) ++ (bw cy 3 (fun _ => 0) (fun _ => 0) (fun x => u5.2 x 0) u5.1 ++ scn cy g2 16 u5.2))) ++ [(g6, .inr (2, zf 2))]) rfl ?_
  refine n_init (pc := 91) (As := [.ref g2]) (st := [.ref g6, .ref h0]) F (i_X2 l D cy t6 g6 g2) yi_2 mi_10_51 (by omega) rfl rfl (Nat.le_of_ble_eq_true rfl) dX10_init_91 (by rw [hCE]; decide) (by rw [hSL]; decide) (fun u6 v6 => ?_)
  refine n_ws (ws2 := (h0, .inr (10, [.ref g0, .ref g1, .ref g2, .ref g3, .ref g4, .ref g5, .null, .null, .null, .null, .null, .int 0])) :: ((((((bw cy 9 (fun _ => 0) (fun _ => 0) (fun _ => 0) u0 ++ (bw cy 5 (fun _ => 0) (fun _ => u1.2 0) (fun _ => 0) u1.1 ++ bw cy 4 (fun _ => 0) (fun _ => 0) (fun _ => 0) u1.2)) ++ bw cy 4 (fun _ => 0) (fun _ => 0) (fun _ => 0) u2) ++ bw cy 7 (fun _ => 0) (fun _ => g2) (fun _ => 0) u3) ++ bw cy 7 (fun _ => 0) (fun _ => g2) (fun _ => 0) u4) ++ (bw cy 3 (fun _ => 0) (fun _ => 0) (fun x => u5.2 x 0) u5.1 ++ scn cy g2 16 u5.2)) ++ (bw cy 2 (fun _ => 0) (fun _ => 0) (fun x => u6.2 x 0) u6.1 ++ scn cy g2 2 u6.2))) rfl ?_
  refine n_putF (pc := 94) F hNm (ty0 := .object "RollingCodes$Images") dX10_init_94 ck_10 fw_10_52 (by decide) rfl rfl (by decide +kernel) rfl rfl (show 6 < 12 by decide) ?_
  refine n_ws (ws2 := (h0, .inr (10, [.ref g0, .ref g1, .ref g2, .ref g3, .ref g4, .ref g5, .ref g6, .null, .null, .null, .null, .int 0])) :: ((((((bw cy 9 (fun _ => 0) (fun _ => 0) (fun _ => 0) u0 ++ (bw cy 5 (fun _ => 0) (fun _ => u1.2 0) (fun _ => 0) u1.1 ++ bw cy 4 (fun _ => 0) (fun _ => 0) (fun _ => 0) u1.2)) ++ bw cy 4 (fun _ => 0) (fun _ => 0) (fun _ => 0) u2) ++ bw cy 7 (fun _ => 0) (fun _ => g2) (fun _ => 0) u3) ++ bw cy 7 (fun _ => 0) (fun _ => g2) (fun _ => 0) u4) ++ (bw cy 3 (fun _ => 0) (fun _ => 0) (fun x => u5.2 x 0) u5.1 ++ scn cy g2 16 u5.2)) ++ (bw cy 2 (fun _ => 0) (fun _ => 0) (fun x => u6.2 x 0) u6.1 ++ scn cy g2 2 u6.2))) rfl ?_
  refine n_aload_n (pc := 97) F dX10_init_97 0 rfl rfl ?_
  refine n_new (pc := 98) (t := 6) F dX10_init_98 ck_6 yn_10_56 hz_6 (by rw [hCE]; decide) (by rw [hSL]; decide) (fun g7 => ?_)
  refine n_dup (pc := 101) F dX10_init_101 rfl ?_
  refine n_aload_n (pc := 102) F dX10_init_102 0 rfl rfl ?_
  refine n_ws (ws2 := (h0, .inr (10, [.ref g0, .ref g1, .ref g2, .ref g3, .ref g4, .ref g5, .ref g6, .null, .null, .null, .null, .int 0])) :: (((((((bw cy 9 (fun _ => 0) (fun _ => 0) (fun _ => 0) u0 ++ (bw cy 5 (fun _ => 0) (fun _ => u1.2 0) (fun _ => 0) u1.1 ++ bw cy 4 (fun _ => 0) (fun _ => 0) (fun _ => 0) u1.2)) ++ bw cy 4 (fun _ => 0) (fun _ => 0) (fun _ => 0) u2) ++ bw cy 7 (fun _ => 0) (fun _ => g2) (fun _ => 0) u3) ++ bw cy 7 (fun _ => 0) (fun _ => g2) (fun _ => 0) u4) ++ (bw cy 3 (fun _ => 0) (fun _ => 0) (fun x => u5.2 x 0) u5.1 ++ scn cy g2 16 u5.2)) ++ (bw cy 2 (fun _ => 0) (fun _ => 0) (fun x => u6.2 x 0) u6.1 ++ scn cy g2 2 u6.2)) ++ [(g7, .inr (6, zf 6))])) rfl ?_
  refine n_get (pc := 103) (v := .ref g2) F dX10_init_103 ck_10 fl_10_26 (by decide) rfl ?_
  refine n_ws (ws2 := ((h0, .inr (10, [.ref g0, .ref g1, .ref g2, .ref g3, .ref g4, .ref g5, .ref g6, .null, .null, .null, .null, .int 0])) :: ((((((bw cy 9 (fun _ => 0) (fun _ => 0) (fun _ => 0) u0 ++ (bw cy 5 (fun _ => 0) (fun _ => u1.2 0) (fun _ => 0) u1.1 ++ bw cy 4 (fun _ => 0) (fun _ => 0) (fun _ => 0) u1.2)) ++ bw cy 4 (fun _ => 0) (fun _ => 0) (fun _ => 0) u2) ++ bw cy 7 (fun _ => 0) (fun _ => g2) (fun _ => 0) u3) ++ bw cy 7 (fun _ => 0) (fun _ => g2) (fun _ => 0) u4) ++ (bw cy 3 (fun _ => 0) (fun _ => 0) (fun x => u5.2 x 0) u5.1 ++ scn cy g2 16 u5.2)) ++ (bw cy 2 (fun _ => 0) (fun _ => 0) (fun x => u6.2 x 0) u6.1 ++ scn cy g2 2 u6.2))) ++ [(g7, .inr (6, zf 6))]) rfl ?_
  refine n_init (pc := 106) (As := [.ref g2]) (st := [.ref g7, .ref h0]) F (i_X6 l D cy t6 g7 g2) yi_6 mi_10_58 (by omega) rfl rfl (Nat.le_of_ble_eq_true rfl) dX10_init_106 (by rw [hCE]; decide) (by rw [hSL]; decide) (fun u7 v7 => ?_)
  refine n_ws (ws2 := (h0, .inr (10, [.ref g0, .ref g1, .ref g2, .ref g3, .ref g4, .ref g5, .ref g6, .null, .null, .null, .null, .int 0])) :: (((((((bw cy 9 (fun _ => 0) (fun _ => 0) (fun _ => 0) u0 ++ (bw cy 5 (fun _ => 0) (fun _ => u1.2 0) (fun _ => 0) u1.1 ++ bw cy 4 (fun _ => 0) (fun _ => 0) (fun _ => 0) u1.2)) ++ bw cy 4 (fun _ => 0) (fun _ => 0) (fun _ => 0) u2) ++ bw cy 7 (fun _ => 0) (fun _ => g2) (fun _ => 0) u3) ++ bw cy 7 (fun _ => 0) (fun _ => g2) (fun _ => 0) u4) ++ (bw cy 3 (fun _ => 0) (fun _ => 0) (fun x => u5.2 x 0) u5.1 ++ scn cy g2 16 u5.2)) ++ (bw cy 2 (fun _ => 0) (fun _ => 0) (fun x => u6.2 x 0) u6.1 ++ scn cy g2 2 u6.2)) ++ (bw cy 6 (fun _ => 0) (fun _ => 0) (fun x => u7.2 x 0) u7.1 ++ scn cy g2 4 u7.2))) rfl ?_
  refine n_putF (pc := 109) F hNm (ty0 := .object "RollingCodes$RowSearch") dX10_init_109 ck_10 fw_10_59 (by decide) rfl rfl (by decide +kernel) rfl rfl (show 7 < 12 by decide) ?_
  refine n_ws (ws2 := (h0, .inr (10, [.ref g0, .ref g1, .ref g2, .ref g3, .ref g4, .ref g5, .ref g6, .ref g7, .null, .null, .null, .int 0])) :: (((((((bw cy 9 (fun _ => 0) (fun _ => 0) (fun _ => 0) u0 ++ (bw cy 5 (fun _ => 0) (fun _ => u1.2 0) (fun _ => 0) u1.1 ++ bw cy 4 (fun _ => 0) (fun _ => 0) (fun _ => 0) u1.2)) ++ bw cy 4 (fun _ => 0) (fun _ => 0) (fun _ => 0) u2) ++ bw cy 7 (fun _ => 0) (fun _ => g2) (fun _ => 0) u3) ++ bw cy 7 (fun _ => 0) (fun _ => g2) (fun _ => 0) u4) ++ (bw cy 3 (fun _ => 0) (fun _ => 0) (fun x => u5.2 x 0) u5.1 ++ scn cy g2 16 u5.2)) ++ (bw cy 2 (fun _ => 0) (fun _ => 0) (fun x => u6.2 x 0) u6.1 ++ scn cy g2 2 u6.2)) ++ (bw cy 6 (fun _ => 0) (fun _ => 0) (fun x => u7.2 x 0) u7.1 ++ scn cy g2 4 u7.2))) rfl ?_
  refine n_aload_n (pc := 112) F dX10_init_112 0 rfl rfl ?_
  refine n_new (pc := 113) (t := 8) F dX10_init_113 ck_8 yn_10_63 hz_8 (by rw [hCE]; decide) (by rw [hSL]; decide) (fun g8 => ?_)
  refine n_dup (pc := 116) F dX10_init_116 rfl ?_
  refine n_init (pc := 117) (As := []) (st := [.ref g8, .ref h0]) F (i_X8 l D cy t6 g8) yi_8 mi_10_65 (by omega) rfl rfl (Nat.le_of_ble_eq_true rfl) dX10_init_117 (by rw [hCE]; decide) (by rw [hSL]; decide) (fun u8 v8 => ?_)
  refine n_ws (ws2 := (h0, .inr (10, [.ref g0, .ref g1, .ref g2, .ref g3, .ref g4, .ref g5, .ref g6, .ref g7, .null, .null, .null, .int 0])) :: ((((((((bw cy 9 (fun _ => 0) (fun _ => 0) (fun _ => 0) u0 ++ (bw cy 5 (fun _ => 0) (fun _ => u1.2 0) (fun _ => 0) u1.1 ++ bw cy 4 (fun _ => 0) (fun _ => 0) (fun _ => 0) u1.2)) ++ bw cy 4 (fun _ => 0) (fun _ => 0) (fun _ => 0) u2) ++ bw cy 7 (fun _ => 0) (fun _ => g2) (fun _ => 0) u3) ++ bw cy 7 (fun _ => 0) (fun _ => g2) (fun _ => 0) u4) ++ (bw cy 3 (fun _ => 0) (fun _ => 0) (fun x => u5.2 x 0) u5.1 ++ scn cy g2 16 u5.2)) ++ (bw cy 2 (fun _ => 0) (fun _ => 0) (fun x => u6.2 x 0) u6.1 ++ scn cy g2 2 u6.2)) ++ (bw cy 6 (fun _ => 0) (fun _ => 0) (fun x => u7.2 x 0) u7.1 ++ scn cy g2 4 u7.2)) ++ bw cy 8 (fun _ => 0) (fun _ => 0) (fun _ => 0) u8)) rfl ?_
  refine n_putF (pc := 120) F hNm (ty0 := .object "RollingCodes$Seen") dX10_init_120 ck_10 fw_10_66 (by decide) rfl rfl (by decide +kernel) rfl rfl (show 8 < 12 by decide) ?_
  refine n_ws (ws2 := (h0, .inr (10, [.ref g0, .ref g1, .ref g2, .ref g3, .ref g4, .ref g5, .ref g6, .ref g7, .ref g8, .null, .null, .int 0])) :: ((((((((bw cy 9 (fun _ => 0) (fun _ => 0) (fun _ => 0) u0 ++ (bw cy 5 (fun _ => 0) (fun _ => u1.2 0) (fun _ => 0) u1.1 ++ bw cy 4 (fun _ => 0) (fun _ => 0) (fun _ => 0) u1.2)) ++ bw cy 4 (fun _ => 0) (fun _ => 0) (fun _ => 0) u2) ++ bw cy 7 (fun _ => 0) (fun _ => g2) (fun _ => 0) u3) ++ bw cy 7 (fun _ => 0) (fun _ => g2) (fun _ => 0) u4) ++ (bw cy 3 (fun _ => 0) (fun _ => 0) (fun x => u5.2 x 0) u5.1 ++ scn cy g2 16 u5.2)) ++ (bw cy 2 (fun _ => 0) (fun _ => 0) (fun x => u6.2 x 0) u6.1 ++ scn cy g2 2 u6.2)) ++ (bw cy 6 (fun _ => 0) (fun _ => 0) (fun x => u7.2 x 0) u7.1 ++ scn cy g2 4 u7.2)) ++ bw cy 8 (fun _ => 0) (fun _ => 0) (fun _ => 0) u8)) rfl ?_
  refine n_aload_n (pc := 123) F dX10_init_123 0 rfl rfl ?_
  refine n_new (pc := 124) (t := 0) F dX10_init_124 ck_0 yn_10_70 hz_0 (by rw [hCE]; decide) (by rw [hSL]; decide) (fun g9 => ?_)
  refine n_dup (pc := 127) F dX10_init_127 rfl ?_
  refine n_init (pc := 128) (As := []) (st := [.ref g9, .ref h0]) F (i_X0 l D cy t6 g9) yi_0 mi_10_72 (by omega) rfl rfl (Nat.le_of_ble_eq_true rfl) dX10_init_128 (by rw [hCE]; decide) (by rw [hSL]; decide) (fun u9 v9 => ?_)
  refine n_ws (ws2 := (h0, .inr (10, [.ref g0, .ref g1, .ref g2, .ref g3, .ref g4, .ref g5, .ref g6, .ref g7, .ref g8, .null, .null, .int 0])) :: (((((((((bw cy 9 (fun _ => 0) (fun _ => 0) (fun _ => 0) u0 ++ (bw cy 5 (fun _ => 0) (fun _ => u1.2 0) (fun _ => 0) u1.1 ++ bw cy 4 (fun _ => 0) (fun _ => 0) (fun _ => 0) u1.2)) ++ bw cy 4 (fun _ => 0) (fun _ => 0) (fun _ => 0) u2) ++ bw cy 7 (fun _ => 0) (fun _ => g2) (fun _ => 0) u3) ++ bw cy 7 (fun _ => 0) (fun _ => g2) (fun _ => 0) u4) ++ (bw cy 3 (fun _ => 0) (fun _ => 0) (fun x => u5.2 x 0) u5.1 ++ scn cy g2 16 u5.2)) ++ (bw cy 2 (fun _ => 0) (fun _ => 0) (fun x => u6.2 x 0) u6.1 ++ scn cy g2 2 u6.2)) ++ (bw cy 6 (fun _ => 0) (fun _ => 0) (fun x => u7.2 x 0) u7.1 ++ scn cy g2 4 u7.2)) ++ bw cy 8 (fun _ => 0) (fun _ => 0) (fun _ => 0) u8) ++ bw cy 0 (fun _ => 0) (fun _ => 0) (fun _ => 0) u9)) rfl ?_
  refine n_putF (pc := 131) F hNm (ty0 := .object "RollingCodes$Book") dX10_init_131 ck_10 fw_10_73 (by decide) rfl rfl (by decide +kernel) rfl rfl (show 9 < 12 by decide) ?_
  refine n_ws (ws2 := (h0, .inr (10, [.ref g0, .ref g1, .ref g2, .ref g3, .ref g4, .ref g5, .ref g6, .ref g7, .ref g8, .ref g9, .null, .int 0])) :: (((((((((bw cy 9 (fun _ => 0) (fun _ => 0) (fun _ => 0) u0 ++ (bw cy 5 (fun _ => 0) (fun _ => u1.2 0) (fun _ => 0) u1.1 ++ bw cy 4 (fun _ => 0) (fun _ => 0) (fun _ => 0) u1.2)) ++ bw cy 4 (fun _ => 0) (fun _ => 0) (fun _ => 0) u2) ++ bw cy 7 (fun _ => 0) (fun _ => g2) (fun _ => 0) u3) ++ bw cy 7 (fun _ => 0) (fun _ => g2) (fun _ => 0) u4) ++ (bw cy 3 (fun _ => 0) (fun _ => 0) (fun x => u5.2 x 0) u5.1 ++ scn cy g2 16 u5.2)) ++ (bw cy 2 (fun _ => 0) (fun _ => 0) (fun x => u6.2 x 0) u6.1 ++ scn cy g2 2 u6.2)) ++ (bw cy 6 (fun _ => 0) (fun _ => 0) (fun x => u7.2 x 0) u7.1 ++ scn cy g2 4 u7.2)) ++ bw cy 8 (fun _ => 0) (fun _ => 0) (fun _ => 0) u8) ++ bw cy 0 (fun _ => 0) (fun _ => 0) (fun _ => 0) u9)) rfl ?_
  refine n_aload_n (pc := 134) F dX10_init_134 0 rfl rfl ?_
  refine n_new (pc := 135) (t := 1) F dX10_init_135 ck_1 yn_10_77 hz_1 (by rw [hCE]; decide) (by rw [hSL]; decide) (fun g10 => ?_)
  refine n_dup (pc := 138) F dX10_init_138 rfl ?_
  refine n_init (pc := 139) (As := []) (st := [.ref g10, .ref h0]) F (i_X1 l D cy t6 g10) yi_1 mi_10_79 (by omega) rfl rfl (Nat.le_of_ble_eq_true rfl) dX10_init_139 (by rw [hCE]; decide) (by rw [hSL]; decide) (fun u10 v10 => ?_)
  refine n_ws (ws2 := (h0, .inr (10, [.ref g0, .ref g1, .ref g2, .ref g3, .ref g4, .ref g5, .ref g6, .ref g7, .ref g8, .ref g9, .null, .int 0])) :: ((((((((((bw cy 9 (fun _ => 0) (fun _ => 0) (fun _ => 0) u0 ++ (bw cy 5 (fun _ => 0) (fun _ => u1.2 0) (fun _ => 0) u1.1 ++ bw cy 4 (fun _ => 0) (fun _ => 0) (fun _ => 0) u1.2)) ++ bw cy 4 (fun _ => 0) (fun _ => 0) (fun _ => 0) u2) ++ bw cy 7 (fun _ => 0) (fun _ => g2) (fun _ => 0) u3) ++ bw cy 7 (fun _ => 0) (fun _ => g2) (fun _ => 0) u4) ++ (bw cy 3 (fun _ => 0) (fun _ => 0) (fun x => u5.2 x 0) u5.1 ++ scn cy g2 16 u5.2)) ++ (bw cy 2 (fun _ => 0) (fun _ => 0) (fun x => u6.2 x 0) u6.1 ++ scn cy g2 2 u6.2)) ++ (bw cy 6 (fun _ => 0) (fun _ => 0) (fun x => u7.2 x 0) u7.1 ++ scn cy g2 4 u7.2)) ++ bw cy 8 (fun _ => 0) (fun _ => 0) (fun _ => 0) u8) ++ bw cy 0 (fun _ => 0) (fun _ => 0) (fun _ => 0) u9) ++ bw cy 1 (fun _ => 0) (fun _ => 0) (fun _ => 0) u10)) rfl ?_
  refine n_putF (pc := 142) F hNm (ty0 := .object "RollingCodes$Draws") dX10_init_142 ck_10 fw_10_80 (by decide) rfl rfl (by decide +kernel) rfl rfl (show 10 < 12 by decide) ?_
  refine n_ws (ws2 := (h0, .inr (10, [.ref g0, .ref g1, .ref g2, .ref g3, .ref g4, .ref g5, .ref g6, .ref g7, .ref g8, .ref g9, .ref g10, .int 0])) :: ((((((((((bw cy 9 (fun _ => 0) (fun _ => 0) (fun _ => 0) u0 ++ (bw cy 5 (fun _ => 0) (fun _ => u1.2 0) (fun _ => 0) u1.1 ++ bw cy 4 (fun _ => 0) (fun _ => 0) (fun _ => 0) u1.2)) ++ bw cy 4 (fun _ => 0) (fun _ => 0) (fun _ => 0) u2) ++ bw cy 7 (fun _ => 0) (fun _ => g2) (fun _ => 0) u3) ++ bw cy 7 (fun _ => 0) (fun _ => g2) (fun _ => 0) u4) ++ (bw cy 3 (fun _ => 0) (fun _ => 0) (fun x => u5.2 x 0) u5.1 ++ scn cy g2 16 u5.2)) ++ (bw cy 2 (fun _ => 0) (fun _ => 0) (fun x => u6.2 x 0) u6.1 ++ scn cy g2 2 u6.2)) ++ (bw cy 6 (fun _ => 0) (fun _ => 0) (fun x => u7.2 x 0) u7.1 ++ scn cy g2 4 u7.2)) ++ bw cy 8 (fun _ => 0) (fun _ => 0) (fun _ => 0) u8) ++ bw cy 0 (fun _ => 0) (fun _ => 0) (fun _ => 0) u9) ++ bw cy 1 (fun _ => 0) (fun _ => 0) (fun _ => 0) u10)) rfl ?_
  refine n_aload_n (pc := 145) F dX10_init_145 0 rfl rfl ?_
  refine n_iconst (v := -1) (pc := 146) F dX10_init_146 (by decide) ?_
  refine n_put (pc := 147) F (ty0 := .int) dX10_init_147 ck_10 fw_10_84 (by decide) rfl (by decide +kernel) rfl rfl (show 11 < 12 by decide) ?_
  refine n_ws (ws2 := (h0, .inr (10, [.ref g0, .ref g1, .ref g2, .ref g3, .ref g4, .ref g5, .ref g6, .ref g7, .ref g8, .ref g9, .ref g10, .int (-1)])) :: ((((((((((bw cy 9 (fun _ => 0) (fun _ => 0) (fun _ => 0) u0 ++ (bw cy 5 (fun _ => 0) (fun _ => u1.2 0) (fun _ => 0) u1.1 ++ bw cy 4 (fun _ => 0) (fun _ => 0) (fun _ => 0) u1.2)) ++ bw cy 4 (fun _ => 0) (fun _ => 0) (fun _ => 0) u2) ++ bw cy 7 (fun _ => 0) (fun _ => g2) (fun _ => 0) u3) ++ bw cy 7 (fun _ => 0) (fun _ => g2) (fun _ => 0) u4) ++ (bw cy 3 (fun _ => 0) (fun _ => 0) (fun x => u5.2 x 0) u5.1 ++ scn cy g2 16 u5.2)) ++ (bw cy 2 (fun _ => 0) (fun _ => 0) (fun x => u6.2 x 0) u6.1 ++ scn cy g2 2 u6.2)) ++ (bw cy 6 (fun _ => 0) (fun _ => 0) (fun x => u7.2 x 0) u7.1 ++ scn cy g2 4 u7.2)) ++ bw cy 8 (fun _ => 0) (fun _ => 0) (fun _ => 0) u8) ++ bw cy 0 (fun _ => 0) (fun _ => 0) (fun _ => 0) u9) ++ bw cy 1 (fun _ => 0) (fun _ => 0) (fun _ => 0) u10)) rfl ?_
  obtain ⟨ad, had⟩ : ∃ ad : Key → Nat, ad = (fun q => match q with
    | (10, _, _) => h0
    | (9, _, j) => u0 j
    | (5, _, j) => u1.1 j
    | (4, 0, j) => u2 j
    | (4, _, j) => u1.2 j
    | (7, k, j) => if k = 0 then u3 j else if k = 1 then u4 j else if k < 18 then u5.2 (k - 2) j else if k < 20 then u6.2 (k - 18) j else u7.2 (k - 20) j
    | (3, _, j) => u5.1 j
    | (2, _, j) => u6.1 j
    | (6, _, j) => u7.1 j
    | (8, _, j) => u8 j
    | (0, _, j) => u9 j
    | (1, _, j) => u10 j
    | _ => 0) := ⟨_, rfl⟩
  have e10 : ad (10, 0, 0) = h0 := by rw [had]; rfl
  have s7 : ∀ k, σX 7 k = fun _ _ => 0 := fun k => σX_0 (by omega) k
  have e40 : ad (4, 0, 0) = g2 := by rw [had]; exact v2
  have b10 : [(h0, Sum.inr (10, [.ref g0, .ref g1, .ref g2, .ref g3, .ref g4, .ref g5, .ref g6, .ref g7, .ref g8, .ref g9, .ref g10, .int (-1)]))] = bw cy 10 (σX 10 0 0) (fun i => ad (fo 10 i)) (fun x => ad (7, so 10 + x, 0)) (fun j => ad (10, 0, j)) := by
    unfold bw
    rw [kB_10, ← v0, ← v1, ← v2, ← v3, ← v4, ← v5, ← v6, ← v7, ← v8, ← v9, ← v10, had]
    rfl
  have b9 : bw cy 9 (fun _ => 0) (fun _ => 0) (fun _ => 0) u0 = bw cy 9 (σX 9 0 0) (fun i => ad (fo 9 i)) (fun x => ad (7, so 9 + x, 0)) (fun j => ad (9, 0, j)) := by
    unfold bw
    rw [kB_9, had]
    rfl
  have b5 : bw cy 5 (fun _ => 0) (fun _ => u1.2 0) (fun _ => 0) u1.1 = bw cy 5 (σX 5 0 0) (fun i => ad (fo 5 i)) (fun x => ad (7, so 5 + x, 0)) (fun j => ad (5, 0, j)) := by
    unfold bw
    rw [kB_5, had]
    rfl
  have b41 : bw cy 4 (fun _ => 0) (fun _ => 0) (fun _ => 0) u1.2 = bw cy 4 (σX 4 1 0) (fun i => ad (fo 4 i)) (fun x => ad (7, so 4 + x, 0)) (fun j => ad (4, 1, j)) := by
    unfold bw
    rw [kB_4, had]
    rfl
  have b40 : bw cy 4 (fun _ => 0) (fun _ => 0) (fun _ => 0) u2 = bw cy 4 (σX 4 0 0) (fun i => ad (fo 4 i)) (fun x => ad (7, so 4 + x, 0)) (fun j => ad (4, 0, j)) := by
    unfold bw
    rw [kB_4, had]
    rfl
  have b70 : bw cy 7 (fun _ => 0) (fun _ => g2) (fun _ => 0) u3 = bw cy 7 (σX 7 0 0) (fun i => ad (fo 7 i)) (fun x => ad (7, so 7 + x, 0)) (fun j => ad (7, 0, j)) := by
    unfold bw
    rw [kB_7, ← v2, had]
    rfl
  have b71 : bw cy 7 (fun _ => 0) (fun _ => g2) (fun _ => 0) u4 = bw cy 7 (σX 7 1 0) (fun i => ad (fo 7 i)) (fun x => ad (7, so 7 + x, 0)) (fun j => ad (7, 1, j)) := by
    unfold bw
    rw [kB_7, ← v2, had]
    rfl
  have b8 : bw cy 8 (fun _ => 0) (fun _ => 0) (fun _ => 0) u8 = bw cy 8 (σX 8 0 0) (fun i => ad (fo 8 i)) (fun x => ad (7, so 8 + x, 0)) (fun j => ad (8, 0, j)) := by
    unfold bw
    rw [kB_8, had]
    rfl
  have b0 : bw cy 0 (fun _ => 0) (fun _ => 0) (fun _ => 0) u9 = bw cy 0 (σX 0 0 0) (fun i => ad (fo 0 i)) (fun x => ad (7, so 0 + x, 0)) (fun j => ad (0, 0, j)) := by
    unfold bw
    rw [kB_0, had]
    rfl
  have b1 : bw cy 1 (fun _ => 0) (fun _ => 0) (fun _ => 0) u10 = bw cy 1 (σX 1 0 0) (fun i => ad (fo 1 i)) (fun x => ad (7, so 1 + x, 0)) (fun j => ad (1, 0, j)) := by
    unfold bw
    rw [kB_1, had]
    rfl
  have sc7 : ∀ (b n : Nat) (B : Nat → Nat → Nat), (∀ x, x < n → (fun j => ad (7, b + x, j)) = B x) → scn cy g2 n B = scn cy (ad (4, 0, 0)) n (fun x j => ad (7, b + x, j)) := by
    intro b n B h
    rw [e40]
    exact scn_cg (fun x hx => (h x hx).symm)
  have a5 : ∀ x, x < 16 → (fun j => ad (7, 2 + x, j)) = u5.2 x := by
    intro x hx
    rw [had]
    funext j
    show (if 2 + x = 0 then u3 j else if 2 + x = 1 then u4 j else if 2 + x < 18 then u5.2 (2 + x - 2) j else if 2 + x < 20 then u6.2 (2 + x - 18) j else u7.2 (2 + x - 20) j) = u5.2 x j
    rw [if_neg (by omega), if_neg (by omega), if_pos (by omega), show 2 + x - 2 = x from by omega]
  have a6 : ∀ x, x < 2 → (fun j => ad (7, 18 + x, j)) = u6.2 x := by
    intro x hx
    rw [had]
    funext j
    show (if 18 + x = 0 then u3 j else if 18 + x = 1 then u4 j else if 18 + x < 18 then u5.2 (18 + x - 2) j else if 18 + x < 20 then u6.2 (18 + x - 18) j else u7.2 (18 + x - 20) j) = u6.2 x j
    rw [if_neg (by omega), if_neg (by omega), if_neg (by omega), if_pos (by omega), show 18 + x - 18 = x from by omega]
  have a7 : ∀ x, x < 4 → (fun j => ad (7, 20 + x, j)) = u7.2 x := by
    intro x hx
    rw [had]
    funext j
    show (if 20 + x = 0 then u3 j else if 20 + x = 1 then u4 j else if 20 + x < 18 then u5.2 (20 + x - 2) j else if 20 + x < 20 then u6.2 (20 + x - 18) j else u7.2 (20 + x - 20) j) = u7.2 x j
    rw [if_neg (by omega), if_neg (by omega), if_neg (by omega), if_neg (by omega), show 20 + x - 20 = x from by omega]
  have b3 : Wq D (bw cy 3 (fun _ => 0) (fun _ => 0) (fun x => u5.2 x 0) u5.1) (bw cy 3 (σX 3 0 0) (fun i => ad (fo 3 i)) (fun x => ad (7, so 3 + x, 0)) (fun j => ad (3, 0, j))) := by
    have e3 : (fun j => ad (3, 0, j)) = u5.1 := by rw [had]; rfl
    rw [e3]
    unfold bw
    rw [kB_3]
    exact Wq.app (a := [_]) (a2 := [_]) (Wq.of rfl) (Wq.arr (fun x hx => congrArg some (congrFun (a5 x hx) 0).symm))
  have b2 : Wq D (bw cy 2 (fun _ => 0) (fun _ => 0) (fun x => u6.2 x 0) u6.1) (bw cy 2 (σX 2 0 0) (fun i => ad (fo 2 i)) (fun x => ad (7, so 2 + x, 0)) (fun j => ad (2, 0, j))) := by
    have e3 : (fun j => ad (2, 0, j)) = u6.1 := by rw [had]; rfl
    rw [e3]
    unfold bw
    rw [kB_2]
    exact Wq.app (a := [_]) (a2 := [_]) (Wq.of rfl) (Wq.app (a := [_]) (a2 := [_]) (Wq.arr (fun x hx => congrArg some (congrFun (a6 x hx) 0).symm)) (Wq.of rfl))
  have b6 : Wq D (bw cy 6 (fun _ => 0) (fun _ => 0) (fun x => u7.2 x 0) u7.1) (bw cy 6 (σX 6 0 0) (fun i => ad (fo 6 i)) (fun x => ad (7, so 6 + x, 0)) (fun j => ad (6, 0, j))) := by
    have e3 : (fun j => ad (6, 0, j)) = u7.1 := by rw [had]; rfl
    rw [e3]
    unfold bw
    rw [kB_6]
    exact Wq.app (a := [_]) (a2 := [_]) (Wq.of rfl) (Wq.app (a := [_]) (a2 := [_]) (Wq.arr (fun x hx => congrArg some (congrFun (a7 x hx) 0).symm)) (Wq.of rfl))
  have hws : Wq D ((h0, .inr (10, [.ref g0, .ref g1, .ref g2, .ref g3, .ref g4, .ref g5, .ref g6, .ref g7, .ref g8, .ref g9, .ref g10, .int (-1)])) :: ((((((((((bw cy 9 (fun _ => 0) (fun _ => 0) (fun _ => 0) u0 ++ (bw cy 5 (fun _ => 0) (fun _ => u1.2 0) (fun _ => 0) u1.1 ++ bw cy 4 (fun _ => 0) (fun _ => 0) (fun _ => 0) u1.2)) ++ bw cy 4 (fun _ => 0) (fun _ => 0) (fun _ => 0) u2) ++ bw cy 7 (fun _ => 0) (fun _ => g2) (fun _ => 0) u3) ++ bw cy 7 (fun _ => 0) (fun _ => g2) (fun _ => 0) u4) ++ (bw cy 3 (fun _ => 0) (fun _ => 0) (fun x => u5.2 x 0) u5.1 ++ scn cy g2 16 u5.2)) ++ (bw cy 2 (fun _ => 0) (fun _ => 0) (fun x => u6.2 x 0) u6.1 ++ scn cy g2 2 u6.2)) ++ (bw cy 6 (fun _ => 0) (fun _ => 0) (fun x => u7.2 x 0) u7.1 ++ scn cy g2 4 u7.2)) ++ bw cy 8 (fun _ => 0) (fun _ => 0) (fun _ => 0) u8) ++ bw cy 0 (fun _ => 0) (fun _ => 0) (fun _ => 0) u9) ++ bw cy 1 (fun _ => 0) (fun _ => 0) (fun _ => 0) u10)) (wl LX ad (Ev ad cy σX)) := by
    unfold wl LX
    simp only [List.map_append]
    rw [kk_w (t := 10) (fun i => rfl), kk_w (t := 9) (fun i => rfl), kk_w (t := 5) (fun i => rfl), kk_w (t := 4) (k := 1) (fun i => rfl), kk_w (t := 4) (k := 0) (fun i => rfl), kk_w (t := 7) (k := 0) (fun i => by rw [s7]), kk_w (t := 7) (k := 1) (fun i => by rw [s7]), kk_w (t := 3) (fun i => rfl), kk_w (t := 2) (fun i => rfl), kk_w (t := 6) (fun i => rfl), kk_w (t := 8) (fun i => rfl), kk_w (t := 0) (fun i => rfl), kk_w (t := 1) (fun i => rfl), k7_w s7, k7_w s7, k7_w s7]
    exact Wq.app (a := [_]) (Wq.of b10) (Wq.app (Wq.app (Wq.app (Wq.app (Wq.app (Wq.app (Wq.app (Wq.app (Wq.app (Wq.app (Wq.of b9) (Wq.app (Wq.of b5) (Wq.of b41))) (Wq.of b40)) (Wq.of b70)) (Wq.of b71)) (Wq.app b3 (Wq.of (sc7 2 16 _ a5)))) (Wq.app b2 (Wq.of (sc7 18 2 _ a6)))) (Wq.app b6 (Wq.of (sc7 20 4 _ a7)))) (Wq.of b8)) (Wq.of b0)) (Wq.of b1))
  have hL : In (l, D, cy, LX, ad, t6) := fun t k j hk hj => LX_mem hk hj
  refine n_eqv hws (n_U (σ := σX) F rfl (by rw [hCE]; decide) (by rw [hSL]; decide) (fun F2 => ?_))
  have g10 : adr (l, D, cy, LX, ad, t6) (10, 0, 0) = h0 := e10
  rw [← g10]
  refine u_aload_n (pc := 150) F2 dX10_init_150 0 rfl rfl ?_
  refine u_getO (pc := 151) (t := 10) (k := 0) (i := 3) F2 dX10_init_151 (hL 10 0 0 (by decide) rfl) ck_10 fl_10_35 rfl (by decide) rfl ?_
  refine u_callv (pc := 154) (t := 7) (k := 0) (As := []) F2 (c_X7_begin _ hL 0 (by decide) σX (fun _ _ => 0) (fun _ _ => 0) (s7 0) (σX_0 (by omega) 0) scB scB_ok) yv_X7_begin ml_10_88 (hL 7 0 0 (by decide) rfl) rfl (by decide) rfl rfl (Nat.le_of_ble_eq_true rfl) dX10_init_154 ?_
  refine u_aload_n (pc := 157) F2 dX10_init_157 0 rfl rfl ?_
  refine u_getO (pc := 158) (t := 10) (k := 0) (i := 8) F2 dX10_init_158 (hL 10 0 0 (by decide) rfl) ck_10 fl_10_66 rfl (by decide) rfl ?_
  refine u_callv (pc := 161) (t := 8) (k := 0) (As := []) F2 (c_X8_clear _ hL (upM σX 7 0 scB) (fun _ _ => 0) (σX_0 (t := 8) (by omega) 0) seB seB_ok) yv_X8_clear ml_10_91 (hL 8 0 0 (by decide) rfl) rfl (by decide) rfl rfl (Nat.le_of_ble_eq_true rfl) dX10_init_161 ?_
  exact U_of_N (hR 164 _ _ _ ad e10 (Nat.le_of_ble_eq_true rfl) (Nat.le_of_ble_eq_true rfl) dX10_init_164)
