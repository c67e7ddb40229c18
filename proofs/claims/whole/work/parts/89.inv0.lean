/-! before the first call: all that is made, and that both sides agree -/
def mF : Grp := fun j i => match j, i with
  | 0, 17 => -1
  | _, _ => 0
def σF : Mem := upM σB 11 0 mF
theorem σF_11 : σF 11 0 = mF := upM_same _ _ _ _
theorem σF_7 : σF 7 0 = scB := by
  unfold σF σB
  rw [upM_ne (by omega), upM_ne (by omega), upM_same]
theorem σF_8 : σF 8 0 = seB := by
  unfold σF σB
  rw [upM_ne (by omega), upM_same]
theorem σF_o {t k : Nat} (h1 : ¬ t = 7) (h2 : ¬ t = 8) (h3 : ¬ t = 11) : σF t k = σX t k := by
  unfold σF σB
  rw [upM_ne (fun e => h3 e.1), upM_ne (fun e => h2 e.1), upM_ne (fun e => h1 e.1)]
theorem mF_s (j i : Nat) : mF (j + 1) i = 0 := rfl
theorem scB_row : (toRow scB 15 = 0 ∧ toRow scB 16 = 0 ∧ toRow scB 25 = 0 ∧ toRow scB 58 = 0) ∧ ∀ g, g < 4 → toRow scB (26 + g) = 0 := by
  obtain ⟨sc, h, h1, h2, h3, h4, h5, h6⟩ := c_begin (fun _ _ => 0) (fun _ _ => 0)
  have e : sc = scB := Option.some.inj (h.symm.trans scB_ok)
  subst e
  exact ⟨⟨h2, h3, h4, h5⟩, fun g hg => (h6 g hg).1⟩
theorem seB_row : (∀ s, s < 256 → seB 1 s = 1) ∧ seB 0 2 = 0 := by
  obtain ⟨se, h, h1, h2⟩ := c_clear (fun _ _ => 0)
  have e : se = seB := Option.some.inj (h.symm.trans seB_ok)
  rw [e] at h1 h2
  exact ⟨h1, h2⟩
theorem inN0 {n : Nat} (h : 0 < n) : inN 0 n := ⟨0, h, rfl⟩
theorem INV0 : INV 0 0 σF := by
  unfold INV
  rw [σF_11, σF_7, σF_8, σF_o (t := 4) (by omega) (by omega) (by omega), σF_o (t := 9) (by omega) (by omega) (by omega), σF_o (t := 10) (by omega) (by omega) (by omega), σF_o (t := 3) (by omega) (by omega) (by omega), σF_o (t := 2) (by omega) (by omega) (by omega), σF_o (t := 0) (by omega) (by omega) (by omega), σF_o (t := 1) (by omega) (by omega) (by omega), σX_0 (t := 4) (by omega), σX_0 (t := 9) (by omega), σX_0 (t := 3) (by omega), σX_0 (t := 2) (by omega), σX_0 (t := 0) (by omega), σX_0 (t := 1) (by omega)]
  obtain ⟨⟨r15, r16, r25, r58⟩, r26⟩ := scB_row
  obtain ⟨s1, s2⟩ := seB_row
  refine ⟨?_, ?_, ?_, rfl, ?_, ?_, ?_, ?_, ?_⟩
  · refine ⟨⟨rfl, rfl, by omega, by omega, fun g hg => absurd hg (by omega), fun f hf => absurd hf (by omega)⟩, ⟨rfl, rfl, by omega, by omega, fun g hg => absurd hg (by omega), fun f hf => absurd hf (by omega)⟩, ⟨fun g hg => absurd hg (by omega), fun f hf => absurd hf (by omega)⟩, rfl, Or.inl rfl, rfl, inN0 (by omega)⟩
  · refine ⟨⟨fun i hi => ?_, fun i hi hlt => absurd hlt (nI_pos (by omega))⟩, ⟨fun g _ => inN0 (by omega), fun g hg => absurd hg (by omega), inN0 (by omega), inN0 (by omega), fun f hf => absurd hf (by omega), inN0 (by omega), fun f hf => absurd hf (by omega), fun f hf => absurd hf (by omega), fun g _ f hf => absurd hf (by omega), trivial⟩, fun g hg => absurd hg (by omega), r58, inN0 (by omega)⟩
    obtain ⟨o1, o2, o3, o4, o5, o6, o7⟩ := hi
    show toRow scB i = 0
    by_cases j15 : i = 15
    · rw [j15, r15]
    by_cases j16 : i = 16
    · rw [j16, r16]
    by_cases j25 : i = 25
    · rw [j25, r25]
    have h1 : ¬ i < 15 := fun h => by
      by_cases i5 : i < 5
      · exact absurd (o2 i5) (by omega)
      by_cases i10 : i < 10
      · exact absurd (o3 (by omega) i10) (by omega)
      · exact absurd (o4 (by omega) h) (by omega)
    have h2 : ¬ 30 ≤ i := fun h => by
      by_cases i38 : i < 38
      · exact absurd (o7 h i38) (by omega)
      · exact absurd (o6 (by omega) o1) (by omega)
    have h3 := r26 (i - 26) (by omega)
    rw [show 26 + (i - 26) = i from by omega] at h3
    exact h3
  · exact ⟨0, by omega, rfl, rfl, fun i hi => absurd hi (by omega)⟩
  · exact ⟨0, 0, by omega, by omega, rfl, rfl, rfl, fun j hj => absurd hj (by omega)⟩
  · intro i hi
    refine ⟨rfl, Or.inl rfl, fun h => ?_⟩
    exact absurd h (by rw [show mF 46 i = 0 from rfl]; decide)
  · refine ⟨0, by omega, s2, rfl, fun s hs => ⟨Or.inr (s1 s hs), ⟨fun _ k hk => absurd hk (by omega), fun _ => s1 s hs⟩⟩⟩
  · exact ⟨0, by omega, rfl, rfl, fun k hk => absurd hk (by omega)⟩
  · exact ⟨rfl, inN0 (by omega)⟩
/-! the two worlds as one -/
def adF (a : Nat → Nat) (ad : Key → Nat) : Key → Nat := fun q => if q.1 = 11 then a q.2.2 else ad q
theorem adF_ne {a : Nat → Nat} {ad : Key → Nat} {q : Key} (h : ¬ q.1 = 11) : adF a ad q = ad q := if_neg h
theorem fo_ne (t i : Nat) : ¬ (fo t i).1 = 11 := by
  unfold fo
  split <;> decide
theorem Ev_adF {a : Nat → Nat} {ad : Key → Nat} {cy : Nat → ClassId} {q : Key} (h : ¬ q.1 = 11) : Ev (adF a ad) cy σF q = Ev ad cy σB q := by
  obtain ⟨t, k, j⟩ := q
  have ht : ¬ t = 11 := h
  have hs : σF t k = σB t k := upM_ne (fun e => ht e.1)
  cases j with
  | zero =>
    simp only [Ev]
    have e : fv (adF a ad) σF t k = fv ad σB t k := by
      funext i
      unfold fv
      rw [hs, adF_ne (fo_ne t i), adF_ne (q := (t, k, i + 1)) ht]
    rw [e]
  | succ i =>
    simp only [Ev]
    rw [hs]
    have e : (fun x => some (adF a ad (7, so t + x, 0))) = (fun x => some (ad (7, so t + x, 0))) := by
      funext x
      rw [adF_ne (show ¬ 7 = 11 by omega)]
    rw [e]
theorem kk_fst {t k : Nat} {q : Key} (h : q ∈ kk t k) : q.1 = t := by
  obtain ⟨j, _, e⟩ := List.mem_map.mp h
  rw [← e]
theorem k7_fst {b n : Nat} {q : Key} (h : q ∈ k7 b n) : q.1 = 7 := by
  obtain ⟨x, _, e⟩ := List.mem_flatMap.mp h
  exact kk_fst e
theorem LX_fst {q : Key} (h : q ∈ LX) : ¬ q.1 = 11 := by
  unfold LX at h
  simp only [List.mem_append] at h
  rcases h with h | (((((((((h | h | h) | h) | h) | h) | h | h) | h | h) | h | h) | h) | h) | h
  all_goals first | (have e := kk_fst h; omega) | (have e := k7_fst h; omega)
theorem F_w {ad : Key → Nat} {a : Nat → Nat} {cy : Nat → ClassId} : wl LX ad (Ev ad cy σB) ++ bw cy 11 (fun i => match i with | 17 => -1 | _ => 0) (fun _ => 0) (fun _ => 0) a = wl (LX ++ kk 11 0) (adF a ad) (Ev (adF a ad) cy σF) := by
  unfold wl
  rw [List.map_append, kk_w (t := 11) (k := 0) (fun i => by rw [σF_11]; rfl)]
  have e1 : LX.map (fun q => (adF a ad q, Ev (adF a ad) cy σF q)) = LX.map (fun q => (ad q, Ev ad cy σB q)) := List.map_congr_left (fun q hq => by rw [adF_ne (LX_fst hq), Ev_adF (LX_fst hq)])
  rw [e1]
  refine congrArg _ ?_
  have e2 : (fun j => adF a ad (11, 0, j)) = a := by
    funext j
    exact if_pos rfl
  rw [e2, σF_11]
  unfold bw
  rw [kB_11]
  rfl
