/-! a new street: the plan, the state from which it begins -/
theorem c_plan (pl pd : Grp) (h : pd 0 0 = 0 ∨ pd 0 0 = 1) : ∃ pl', fX4_copyFrom pl pd = some pl' ∧ (pl' 0 0 = pd 0 0 ∧ pl' 0 1 = pd 0 1 ∧ pl' 0 2 = pd 0 2 ∧ pl' 0 3 = pd 0 3 ∧ pl' 0 4 = pd 0 4) ∧ (∀ k, k < 4 → pl' 6 k = pd 6 k ∧ pl' 7 k = pd 7 k ∧ pl' 8 k = pd 8 k) ∧ ∀ k, k < 5 → pl' 9 k = pd 9 k ∧ pl' 10 k = pd 10 k ∧ pl' 11 k = pd 11 k ∧ pl' 12 k = pd 12 k ∧ pl' 13 k = pd 13 k := by
  unfold fX4_copyFrom
  rw [zb_e h]
  simp only [lt_e, show (0 : Int32).toNatClampNeg = 0 from rfl, show (5 : Int32).toNatClampNeg = 5 from rfl, show (4 : Int32).toNatClampNeg = 4 from rfl]
  exact ⟨_, rfl, ⟨rfl, rfl, rfl, rfl, rfl⟩, fun k hk => ⟨cpy_at hk, cpy_at hk, cpy_at hk⟩, fun k hk => ⟨cpy_at hk, cpy_at hk, cpy_at hk, cpy_at hk, cpy_at hk⟩⟩
theorem c_beg100 (pl : Grp) {g : Nat} (hg : g < 4) : ∀ (n f fu : Nat) (sc : Grp), f + n = 5 → n + 1 ≤ fu → ∃ sc', fX7_begin_100 pl fu sc (nI g) (nI f) = some (nI g, sc') ∧ (∀ f', f ≤ f' → f' < 5 → toRow sc' (38 + 5 * g + f') = toRow sc (5 + f')) ∧ ∀ i, ¬ (38 + 5 * g + f ≤ i ∧ i < 38 + 5 * g + 5) → toRow sc' i = toRow sc i := by
  intro n
  induction n with
  | zero =>
    intro f fu sc hf hfu
    obtain ⟨fu, rfl⟩ : ∃ z, fu = z + 1 := ⟨fu - 1, by omega⟩
    obtain rfl : f = 5 := by omega
    rw [fX7_begin_100, if_neg (show ¬ nI 5 < 5 by decide)]
    exact ⟨sc, rfl, fun f' h1 h2 => by omega, fun _ _ => rfl⟩
  | succ n ih =>
    intro f fu sc hf hfu
    obtain ⟨fu, rfl⟩ : ∃ z, fu = z + 1 := ⟨fu - 1, by omega⟩
    rw [fX7_begin_100, if_pos (show nI f < 5 from nI_lt (b := 5) (by omega) (by omega))]
    have et : fX7_taught sc (nI g) (nI f) = some (wr sc 13 (5 * g + f) (sc 8 f)) := by
      unfold fX7_taught
      simp (disch := omega) only [ix5, ab_e, nI_clamp, lt_e]
    rw [et, bd_e, lt_e, ix1]
    obtain ⟨sc', a1, a2, a3⟩ := ih (f + 1) fu (wr sc 13 (5 * g + f) (sc 8 f)) (by omega) (by omega)
    rw [tw38 (by omega) (by omega)] at a2 a3
    refine ⟨sc', a1, fun f' h1 h2 => ?_, fun i hi => ?_⟩
    · by_cases e : f' = f
      · rw [e, a3 _ (by omega), upd_at, tr5 (by omega)]
      · rw [a2 f' (by omega) h2, upd_ne (by omega)]
    · rw [a3 i (by omega), upd_ne (by omega)]
theorem c_beg79 (pl : Grp) : ∀ (n g fu : Nat) (sc : Grp), g + n = 4 → n + 1 ≤ fu → ∃ sc', fX7_begin_79 pl fu sc (nI g) = some sc' ∧ (∀ g', g ≤ g' → g' < 4 → toRow sc' (26 + g') = 0 ∧ toRow sc' (30 + g') = -1 ∧ toRow sc' (34 + g') = -1 ∧ ∀ f, f < 5 → toRow sc' (38 + 5 * g' + f) = toRow sc (5 + f)) ∧ ∀ i, i < 26 ∨ i = 58 ∨ (26 ≤ i ∧ i < 26 + g) ∨ (30 ≤ i ∧ i < 30 + g) ∨ (34 ≤ i ∧ i < 34 + g) ∨ (38 ≤ i ∧ i < 38 + 5 * g) → toRow sc' i = toRow sc i := by
  intro n
  induction n with
  | zero =>
    intro g fu sc hg hfu
    obtain ⟨fu, rfl⟩ : ∃ z, fu = z + 1 := ⟨fu - 1, by omega⟩
    obtain rfl : g = 4 := by omega
    rw [fX7_begin_79, if_neg (show ¬ nI 4 < 4 by decide)]
    exact ⟨sc, rfl, fun g' h1 h2 => by omega, fun _ _ => rfl⟩
  | succ n ih =>
    intro g fu sc hg hfu
    obtain ⟨fu, rfl⟩ : ∃ z, fu = z + 1 := ⟨fu - 1, by omega⟩
    obtain ⟨s1, b1, b2⟩ := c_wait (wr sc 10 g 0) (g := g) (by omega) (-1) (-1)
    obtain ⟨s2, b3, b4, b5⟩ := c_beg100 pl (g := g) (by omega) 5 0 1000 s1 (by omega) (by omega)
    rw [show nI 0 = (0 : Int32) from rfl] at b3
    obtain ⟨sc', a1, a2, a3⟩ := ih (g + 1) fu s2 (by omega) (by omega)
    rw [fX7_begin_79, if_pos (show nI g < 4 from nI_lt (b := 4) (by omega) (by omega)), ab_e (by omega) (by omega), nI_clamp (by omega), lt_e, b1, bd_e, b3, bd_e]
    dsimp only
    rw [lt_e, ix1]
    rw [tw26 (by omega)] at b2
    have low : ∀ i, i < 26 ∨ i = 58 ∨ (26 ≤ i ∧ i < 26 + g) ∨ (30 ≤ i ∧ i < 30 + g) ∨ (34 ≤ i ∧ i < 34 + g) ∨ (38 ≤ i ∧ i < 38 + 5 * g) → toRow s2 i = toRow sc i := by
      intro i hi
      rw [b5 i (by omega), b2, upd_ne (by omega), upd_ne (by omega), upd_ne (by omega)]
    refine ⟨sc', a1, fun g' h1 h2 => ?_, fun i hi => ?_⟩
    · by_cases e : g' = g
      · subst e
        refine ⟨?_, ?_, ?_, fun f hf => ?_⟩
        · rw [a3 _ (by omega), b5 _ (by omega), b2, upd_ne (by omega), upd_ne (by omega), upd_at]
        · rw [a3 _ (by omega), b5 _ (by omega), b2, upd_ne (by omega), upd_at]
        · rw [a3 _ (by omega), b5 _ (by omega), b2, upd_at]
        · rw [a3 _ (by omega), b4 f (by omega) hf, b2, upd_ne (by omega), upd_ne (by omega), upd_ne (by omega)]
      · obtain ⟨c1, c2, c3, c4⟩ := a2 g' (by omega) h2
        exact ⟨c1, c2, c3, fun f hf => by rw [c4 f hf, low (5 + f) (by omega)]⟩
    · rw [a3 i (by omega), low i hi]
theorem c_beg28 (pl : Grp) : ∀ (n f fu : Nat) (sc : Grp), f + n = 5 → n + 1 ≤ fu → ∃ sc', fX7_begin_28 pl fu sc (nI f) = fX7_begin_79 pl 1000 sc' 0 ∧ (∀ f', f ≤ f' → f' < 5 → toRow sc' f' = pl 10 f' ∧ toRow sc' (5 + f') = pl 13 f' ∧ toRow sc' (10 + f') = 60) ∧ ∀ i, i < f ∨ (5 ≤ i ∧ i < 5 + f) ∨ (10 ≤ i ∧ i < 10 + f) ∨ 15 ≤ i → toRow sc' i = toRow sc i := by
  intro n
  induction n with
  | zero =>
    intro f fu sc hf hfu
    obtain ⟨fu, rfl⟩ : ∃ z, fu = z + 1 := ⟨fu - 1, by omega⟩
    obtain rfl : f = 5 := by omega
    rw [fX7_begin_28, if_neg (show ¬ nI 5 < 5 by decide)]
    exact ⟨sc, rfl, fun f' h1 h2 => by omega, fun _ _ => rfl⟩
  | succ n ih =>
    intro f fu sc hf hfu
    obtain ⟨fu, rfl⟩ : ∃ z, fu = z + 1 := ⟨fu - 1, by omega⟩
    rw [fX7_begin_28, if_pos (show nI f < 5 from nI_lt (b := 5) (by omega) (by omega))]
    simp (disch := omega) only [ab_e, nI_clamp, lt_e, ix1]
    obtain ⟨sc', a1, a2, a3⟩ := ih (f + 1) fu (wr (wr (wr sc 7 f (pl 10 f)) 8 f (pl 13 f)) 9 f 60) (by omega) (by omega)
    rw [tw10 (by omega), tw5 (by omega), tw0 (by omega)] at a3
    refine ⟨sc', a1, fun f' h1 h2 => ?_, fun i hi => ?_⟩
    · by_cases e : f' = f
      · subst e
        refine ⟨?_, ?_, ?_⟩
        · rw [a3 _ (by omega), upd_ne (by omega), upd_ne (by omega), upd_at]
        · rw [a3 _ (by omega), upd_ne (by omega), upd_at]
        · rw [a3 _ (by omega), upd_at]
      · exact a2 f' (by omega) h2
    · rw [a3 i (by omega), upd_ne (by omega), upd_ne (by omega), upd_ne (by omega)]
/-- the state from which a street begins, as the class makes it -/
theorem c_begin (sc pl : Grp) : ∃ sc', fX7_begin sc pl = some sc' ∧ (∀ f, f < 5 → toRow sc' f = pl 10 f ∧ toRow sc' (5 + f) = pl 13 f ∧ toRow sc' (10 + f) = 60) ∧ toRow sc' 15 = pl 0 1 ∧ toRow sc' 16 = 0 ∧ toRow sc' 25 = 0 ∧ toRow sc' 58 = 0 ∧ ∀ g, g < 4 → toRow sc' (26 + g) = 0 ∧ toRow sc' (30 + g) = -1 ∧ toRow sc' (34 + g) = -1 ∧ ∀ f, f < 5 → toRow sc' (38 + 5 * g + f) = pl 13 f := by
  have e0 : fX7_begin sc pl = fX7_begin_28 pl 1000 (wr (wr (wr (wr sc 0 1 0) 0 2 (pl 0 1)) 0 3 0) 0 4 0) 0 := by
    unfold fX7_begin
    rw [lt_e, lt_e, lt_e, lt_e]
  obtain ⟨s1, a1, a2, a3⟩ := c_beg28 pl 5 0 1000 (wr (wr (wr (wr sc 0 1 0) 0 2 (pl 0 1)) 0 3 0) 0 4 0) (by omega) (by omega)
  obtain ⟨s2, b1, b2, b3⟩ := c_beg79 pl 4 0 1000 s1 (by omega) (by omega)
  rw [tw16, tw25, tw15, tw58] at a3
  rw [show nI 0 = (0 : Int32) from rfl] at a1 b1
  refine ⟨s2, by rw [e0, a1, b1], fun f hf => ?_, ?_, ?_, ?_, ?_, fun g hg => ?_⟩
  · obtain ⟨c1, c2, c3⟩ := a2 f (by omega) hf
    exact ⟨by rw [b3 _ (by omega)]; exact c1, by rw [b3 _ (by omega)]; exact c2, by rw [b3 _ (by omega)]; exact c3⟩
  · rw [b3 _ (by omega), a3 _ (by omega), upd_ne (by omega), upd_ne (by omega), upd_at]
  · rw [b3 _ (by omega), a3 _ (by omega), upd_at]
  · rw [b3 _ (by omega), a3 _ (by omega), upd_ne (by omega), upd_at]
  · rw [b3 _ (by omega), a3 _ (by omega), upd_ne (by omega), upd_ne (by omega), upd_ne (by omega), upd_at]
  · obtain ⟨c1, c2, c3, c4⟩ := b2 g (by omega) hg
    exact ⟨c1, c2, c3, fun f hf => by rw [c4 f hf]; exact (a2 f (by omega) hf).2.1⟩
/-! the model's -/
theorem wr14 (mo : Grp) (r : Row) (i : Nat) (v : Int32) : wr (wa mo 14 r) 14 i v = wa mo 14 (upd r i v) := wr_wa2 mo 14 r i v
theorem m_beg114 (mo : Grp) {Fb g : Nat} (hF : Fb ≤ 5) (hg : g < 4) (h7 : mo 0 7 = nI Fb) : ∀ (n f fu : Nat) (r : Row), f + n = Fb → n + 1 ≤ fu → ∃ r', fX11_beginAll_114 fu (wa mo 14 r) (nI g) (nI f) = some (nI g, wa mo 14 r') ∧ (∀ f', f ≤ f' → f' < Fb → r' (38 + 5 * g + f') = mo 13 f') ∧ ∀ i, ¬ (38 + 5 * g + f ≤ i ∧ i < 38 + 5 * g + 5) → r' i = r i := by
  intro n
  induction n with
  | zero =>
    intro f fu r hf hfu
    obtain ⟨fu, rfl⟩ : ∃ z, fu = z + 1 := ⟨fu - 1, by omega⟩
    rw [fX11_beginAll_114, wa_oth _ (show ¬ 0 = 14 by omega), h7, if_neg (nI_nlt (by omega) (by omega))]
    exact ⟨r, rfl, fun f' h1 h2 => by omega, fun _ _ => rfl⟩
  | succ n ih =>
    intro f fu r hf hfu
    obtain ⟨fu, rfl⟩ : ∃ z, fu = z + 1 := ⟨fu - 1, by omega⟩
    rw [fX11_beginAll_114, wa_oth _ (show ¬ 0 = 14 by omega), h7, if_pos (nI_lt (by omega) (by omega))]
    simp (disch := omega) only [ix38, ab_e, nI_clamp, lt_e, ix1, wr14]
    obtain ⟨r', a1, a2, a3⟩ := ih (f + 1) fu (upd r (38 + 5 * g + f) (mo 13 f)) (by omega) (by omega)
    refine ⟨r', a1, fun f' h1 h2 => ?_, fun i hi => ?_⟩
    · by_cases e : f' = f
      · rw [e, a3 _ (by omega), upd_at]
      · exact a2 f' (by omega) h2
    · rw [a3 i (by omega), upd_ne (by omega)]
theorem m_beg87 (mo : Grp) {Fb : Nat} (hF : Fb ≤ 5) (h7 : mo 0 7 = nI Fb) : ∀ (n g fu : Nat) (r : Row), g + n = 4 → n + 1 ≤ fu → ∃ r', fX11_beginAll_87 fu (wa mo 14 r) (nI g) = some (wa mo 14 r') ∧ (∀ g', g ≤ g' → g' < 4 → r' (30 + g') = -1 ∧ r' (34 + g') = -1 ∧ ∀ f, f < Fb → r' (38 + 5 * g' + f) = mo 13 f) ∧ ∀ i, i < 30 ∨ i = 58 ∨ (30 ≤ i ∧ i < 30 + g) ∨ (34 ≤ i ∧ i < 34 + g) ∨ (38 ≤ i ∧ i < 38 + 5 * g) → r' i = r i := by
  intro n
  induction n with
  | zero =>
    intro g fu r hg hfu
    obtain ⟨fu, rfl⟩ : ∃ z, fu = z + 1 := ⟨fu - 1, by omega⟩
    obtain rfl : g = 4 := by omega
    rw [fX11_beginAll_87, if_neg (show ¬ nI 4 < 4 by decide)]
    exact ⟨r, rfl, fun g' h1 h2 => by omega, fun _ _ => rfl⟩
  | succ n ih =>
    intro g fu r hg hfu
    obtain ⟨fu, rfl⟩ : ∃ z, fu = z + 1 := ⟨fu - 1, by omega⟩
    obtain ⟨r1, b1, b2, b3⟩ := m_beg114 mo hF (g := g) (by omega) h7 Fb 0 1000 (upd (upd r (30 + g) (-1)) (34 + g) (-1)) (by omega) (by omega)
    rw [show nI 0 = (0 : Int32) from rfl] at b1
    obtain ⟨r', a1, a2, a3⟩ := ih (g + 1) fu r1 (by omega) (by omega)
    rw [fX11_beginAll_87, if_pos (show nI g < 4 from nI_lt (b := 4) (by omega) (by omega)), ix30, ix34, ab_e (by omega) (by omega), lt_e, ab_e (by omega) (by omega), lt_e, nI_clamp (by omega), nI_clamp (by omega), wr14, wr14, b1, bd_e]
    dsimp only
    rw [lt_e, ix1]
    refine ⟨r', a1, fun g' h1 h2 => ?_, fun i hi => ?_⟩
    · by_cases e : g' = g
      · subst e
        refine ⟨?_, ?_, fun f hf => ?_⟩
        · rw [a3 _ (by omega), b3 _ (by omega), upd_ne (by omega), upd_at]
        · rw [a3 _ (by omega), b3 _ (by omega), upd_at]
        · rw [a3 _ (by omega), b2 f (by omega) hf]
      · exact a2 g' (by omega) h2
    · rw [a3 i (by omega), b3 i (by omega), upd_ne (by omega), upd_ne (by omega)]
theorem m_beg23 (mo : Grp) {Fb : Nat} (hF : Fb ≤ 5) (h7 : mo 0 7 = nI Fb) : ∀ (n f fu : Nat) (r : Row), f + n = Fb → n + 1 ≤ fu → ∃ r', fX11_beginAll_23 fu (wa mo 14 r) (nI f) = fX11_beginAll_87 1000 (wa mo 14 (upd r' 15 (mo 0 1))) 0 ∧ (∀ f', f ≤ f' → f' < Fb → r' f' = mo 10 f' ∧ r' (5 + f') = mo 13 f' ∧ r' (10 + f') = 60) ∧ ∀ i, i < f ∨ (5 ≤ i ∧ i < 5 + f) ∨ (10 ≤ i ∧ i < 10 + f) ∨ 15 ≤ i → r' i = r i := by
  intro n
  induction n with
  | zero =>
    intro f fu r hf hfu
    obtain ⟨fu, rfl⟩ : ∃ z, fu = z + 1 := ⟨fu - 1, by omega⟩
    rw [fX11_beginAll_23, wa_oth _ (show ¬ 0 = 14 by omega), h7, if_neg (nI_nlt (by omega) (by omega)), ab_l (x := 15) (n := 59) (by decide) (by decide), lt_e, show (15 : Int32).toNatClampNeg = 15 from rfl, wr14]
    exact ⟨r, rfl, fun f' h1 h2 => by omega, fun _ _ => rfl⟩
  | succ n ih =>
    intro f fu r hf hfu
    obtain ⟨fu, rfl⟩ : ∃ z, fu = z + 1 := ⟨fu - 1, by omega⟩
    rw [fX11_beginAll_23, wa_oth _ (show ¬ 0 = 14 by omega), h7, if_pos (nI_lt (by omega) (by omega))]
    simp (disch := omega) only [ix5a, ix10, ab_e, nI_clamp, lt_e, ix1, wr14]
    obtain ⟨r', a1, a2, a3⟩ := ih (f + 1) fu (upd (upd (upd r f (mo 10 f)) (5 + f) (mo 13 f)) (10 + f) 60) (by omega) (by omega)
    refine ⟨r', a1, fun f' h1 h2 => ?_, fun i hi => ?_⟩
    · by_cases e : f' = f
      · subst e
        refine ⟨?_, ?_, ?_⟩
        · rw [a3 _ (by omega), upd_ne (by omega), upd_ne (by omega), upd_at]
        · rw [a3 _ (by omega), upd_ne (by omega), upd_at]
        · rw [a3 _ (by omega), upd_at]
      · exact a2 f' (by omega) h2
    · rw [a3 i (by omega), upd_ne (by omega), upd_ne (by omega), upd_ne (by omega)]
theorem m_beg2 (mo : Grp) : ∀ (n k fu : Nat) (r : Row), k + n = 59 → n + 1 ≤ fu → (∀ i, i < k → r i = 0) → ∃ r', fX11_beginAll_2 fu (wa mo 14 r) (nI k) = fX11_beginAll_23 1000 (wa mo 14 r') 0 ∧ ∀ i, i < 59 → r' i = 0 := by
  intro n
  induction n with
  | zero =>
    intro k fu r hk hfu hr
    obtain ⟨fu, rfl⟩ : ∃ z, fu = z + 1 := ⟨fu - 1, by omega⟩
    obtain rfl : k = 59 := by omega
    rw [fX11_beginAll_2, if_neg (show ¬ nI 59 < 59 by decide)]
    exact ⟨r, rfl, hr⟩
  | succ n ih =>
    intro k fu r hk hfu hr
    obtain ⟨fu, rfl⟩ : ∃ z, fu = z + 1 := ⟨fu - 1, by omega⟩
    rw [fX11_beginAll_2, if_pos (show nI k < 59 from nI_lt (b := 59) (by omega) (by omega)), ab_e (by omega) (by omega), nI_clamp (by omega), lt_e, lt_e, ix1, wr14]
    refine ih (k + 1) fu _ (by omega) (by omega) (fun i hi => ?_)
    by_cases e : i = k
    · rw [e, upd_at]
    · rw [upd_ne e]; exact hr i (by omega)
theorem m_begin (mo : Grp) {Fb : Nat} (hF : Fb ≤ 5) (h7 : mo 0 7 = nI Fb) : ∃ r, fX11_beginAll mo = some (wa mo 14 r) ∧ (∀ f, f < Fb → r f = mo 10 f ∧ r (5 + f) = mo 13 f ∧ r (10 + f) = 60) ∧ r 15 = mo 0 1 ∧ r 16 = 0 ∧ r 25 = 0 ∧ r 58 = 0 ∧ ∀ g, g < 4 → r (26 + g) = 0 ∧ r (30 + g) = -1 ∧ r (34 + g) = -1 ∧ ∀ f, f < Fb → r (38 + 5 * g + f) = mo 13 f := by
  unfold fX11_beginAll
  obtain ⟨r1, a1, a2⟩ := m_beg2 mo 59 0 1000 (mo 14) (by omega) (by omega) (fun i hi => by omega)
  obtain ⟨r2, b1, b2, b3⟩ := m_beg23 mo hF h7 Fb 0 1000 r1 (by omega) (by omega)
  obtain ⟨r3, c1, c2, c3⟩ := m_beg87 mo hF h7 4 0 1000 (upd r2 15 (mo 0 1)) (by omega) (by omega)
  rw [wa_self] at a1
  rw [show nI 0 = (0 : Int32) from rfl] at a1 b1 c1
  refine ⟨r3, a1.trans (b1.trans c1), fun f hf => ?_, ?_, ?_, ?_, ?_, fun g hg => ?_⟩
  · obtain ⟨d1, d2, d3⟩ := b2 f (by omega) hf
    refine ⟨?_, ?_, ?_⟩
    · rw [c3 _ (by omega), upd_ne (by omega)]; exact d1
    · rw [c3 _ (by omega), upd_ne (by omega)]; exact d2
    · rw [c3 _ (by omega), upd_ne (by omega)]; exact d3
  · rw [c3 _ (by omega), upd_at]
  · rw [c3 _ (by omega), upd_ne (by omega), b3 _ (by omega), a2 _ (by omega)]
  · rw [c3 _ (by omega), upd_ne (by omega), b3 _ (by omega), a2 _ (by omega)]
  · rw [c3 _ (by omega), upd_ne (by omega), b3 _ (by omega), a2 _ (by omega)]
  · obtain ⟨d1, d2, d3⟩ := c2 g (by omega) hg
    refine ⟨?_, d1, d2, d3⟩
    rw [c3 _ (by omega), upd_ne (by omega), b3 _ (by omega), a2 _ (by omega)]
