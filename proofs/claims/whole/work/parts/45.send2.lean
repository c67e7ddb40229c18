def sfar (a b : Int32) : Int32 := if a ≤ b then b - a else a - b
def snoisy (r : Row) (g : Nat) : Prop := (r 25 >>> (nI g &&& 31)) &&& 1 = 1
/-- a code that is sent from a place, heard by n gates from g on -/
noncomputable def ssend (kd pc wn sec : Row) (Fb : Nat) (place reach code : Int32) : Nat → Nat → Int32 → Row → Int32 × Row
  | 0, _, s, r => (s, r)
  | n + 1, g, s, r => if ¬ (r 25 >>> (nI g &&& 31)) &&& 1 = 1 ∧ sfar place (pc g) ≤ reach then
      ssend kd pc wn sec Fb place reach code n (g + 1) (if (shears kd wn sec Fb r g code).1 = 0 then s else s ||| (1 <<< (nI g &&& 31))) (shears kd wn sec Fb r g code).2
    else ssend kd pc wn sec Fb place reach code n (g + 1) s r
theorem m_has (a b : Int32) : fX11_has a b = some (if (a >>> (b &&& 31)) &&& 1 = 1 then 1 else 0) := by
  unfold fX11_has
  split <;> rfl
theorem m_far (a b : Int32) : fX11_far a b = some (sfar a b) := by
  unfold fX11_far sfar
  split <;> rfl
theorem shears_zero {Fb G g : Nat} {kd pc wn fk fr sec r : Row} {code : Int32} : (shears kd wn sec Fb r g code).1 = 0 ∨ (shears kd wn sec Fb r g code).1 = 1 := by
  unfold shears
  split
  · exact Or.inr rfl
  · split
    · exact Or.inl rfl
    · split
      · exact Or.inl rfl
      · exact Or.inr rfl
theorem MP_row {mo : Grp} {G Fb : Nat} (h : MP mo G Fb) (r : Row) : MP (wa mo 14 r) G Fb := by
  unfold MP
  simp only [wa_oth r (show ¬ 0 = 14 by omega), wa_oth r (show ¬ 5 = 14 by omega), wa_oth r (show ¬ 6 = 14 by omega), wa_oth r (show ¬ 7 = 14 by omega), wa_oth r (show ¬ 9 = 14 by omega), wa_oth r (show ¬ 11 = 14 by omega), wa_oth r (show ¬ 12 = 14 by omega)]
  exact h
theorem m_send6 (code place reach : Int32) {G Fb : Nat} (kd pc wn sec : Row) : ∀ (n g fu : Nat) (mo : Grp) (s : Int32), g + n = G → n + 1 ≤ fu → MP mo G Fb → RI G Fb (mo 14) → WC G (mo 14) → mo 5 = kd → mo 6 = pc → mo 7 = wn → mo 12 = sec →
    fX11_sendFrom_6 fu mo place reach code s (nI g) = some ((ssend kd pc wn sec Fb place reach code n g s (mo 14)).1, wa mo 14 (ssend kd pc wn sec Fb place reach code n g s (mo 14)).2) := by
  intro n
  induction n with
  | zero =>
    intro g fu mo s h1 h2 hM hR hW e5 e6 e7 e12
    obtain ⟨fu, rfl⟩ : ∃ z, fu = z + 1 := ⟨fu - 1, by omega⟩
    unfold fX11_sendFrom_6 ssend
    rw [hM.1, if_neg (nI_nlt (by omega) (by have := hM.2.2.1; omega)), wa_self]
  | succ n ih =>
    intro g fu mo s h1 h2 hM hR hW e5 e6 e7 e12
    obtain ⟨fu, rfl⟩ : ∃ z, fu = z + 1 := ⟨fu - 1, by omega⟩
    have hG := hM.2.2.1
    unfold fX11_sendFrom_6 ssend
    rw [hM.1, if_pos (nI_lt (by omega) (by omega)), ab_l (by decide) (by decide), show (25 : Int32).toNatClampNeg = 25 from rfl, m_has, bd_e]
    by_cases hn : (mo 14 25 >>> (nI g &&& 31)) &&& 1 = 1
    · rw [if_pos hn, if_neg (by decide), if_pos rfl, lt_e, ix1, if_neg (fun e => e.1 hn)]
      exact ih (g + 1) fu mo s (by omega) (by omega) hM hR hW e5 e6 e7 e12
    · rw [if_neg hn, if_pos rfl, ab_e (by omega) (by omega), nI_clamp (by omega), m_far, bd_e, e6]
      by_cases hf : sfar place (pc g) ≤ reach
      · rw [if_pos hf, if_neg (by decide), if_pos ⟨hn, hf⟩, m_hears mo (by omega) hM hR, bd_e, e5, e7, e12]
        have hI := RI_hears (G := G) (g := g) (kd := kd) (pc := mo 6) (wn := wn) (fk := mo 9) (fr := mo 11) (sec := sec) (code := code) (by rw [← e5, ← e7, ← e12]; exact hM.2.2) hR hW (by omega)
        have hrow : (wa mo 14 (shears kd wn sec Fb (mo 14) g code).2) 14 = (shears kd wn sec Fb (mo 14) g code).2 := wa_row _ _ _
        have step : ∀ s', fX11_sendFrom_6 fu (wa mo 14 (shears kd wn sec Fb (mo 14) g code).2) place reach code s' (nI (g + 1)) = some ((ssend kd pc wn sec Fb place reach code n (g + 1) s' (shears kd wn sec Fb (mo 14) g code).2).1, wa mo 14 (ssend kd pc wn sec Fb place reach code n (g + 1) s' (shears kd wn sec Fb (mo 14) g code).2).2) := by
          intro s'
          have e := ih (g + 1) fu (wa mo 14 (shears kd wn sec Fb (mo 14) g code).2) s' (by omega) (by omega) (MP_row hM _) (by rw [hrow]; exact hI.1) (by rw [hrow]; exact hI.2.1) (by rw [wa_oth _ (by omega)]; exact e5) (by rw [wa_oth _ (by omega)]; exact e6) (by rw [wa_oth _ (by omega)]; exact e7) (by rw [wa_oth _ (by omega)]; exact e12)
          rw [hrow, wa_wa] at e
          exact e
        by_cases hz : (shears kd wn sec Fb (mo 14) g code).1 = 0
        · rw [if_pos hz, if_pos hz, lt_e, ix1]
          exact step s
        · rw [if_neg hz, if_neg hz, lt_e, lt_e, ix1]
          exact step _
      · rw [if_neg hf, if_pos rfl, lt_e, ix1, if_neg (fun e => hf e.2)]
        exact ih (g + 1) fu mo s (by omega) (by omega) hM hR hW e5 e6 e7 e12
theorem m_send (mo : Grp) {G Fb : Nat} (hM : MP mo G Fb) (hR : RI G Fb (mo 14)) (hW : WC G (mo 14)) (place reach code : Int32) :
    fX11_sendFrom mo place reach code = some ((ssend (mo 5) (mo 6) (mo 7) (mo 12) Fb place reach code G 0 0 (mo 14)).1, wa mo 14 (ssend (mo 5) (mo 6) (mo 7) (mo 12) Fb place reach code G 0 0 (mo 14)).2) := by
  unfold fX11_sendFrom
  have hG := hM.2.2.1
  exact m_send6 code place reach (mo 5) (mo 6) (mo 7) (mo 12) G 0 1000 mo 0 (by omega) (by omega) hM hR hW rfl rfl rfl rfl
theorem RI_send {G Fb : Nat} {kd pc wn fk fr sec : Row} {place reach code : Int32} (hp : PI G Fb kd pc wn fk fr sec) : ∀ (n g : Nat) (s : Int32) (r : Row), g + n = G → RI G Fb r → WC G r → RI G Fb (ssend kd pc wn sec Fb place reach code n g s r).2 ∧ WC G (ssend kd pc wn sec Fb place reach code n g s r).2 := by
  intro n
  induction n with
  | zero => intro g s r _ h1 h2; exact ⟨h1, h2⟩
  | succ n ih =>
    intro g s r hg h1 h2
    unfold ssend
    have hI := RI_hears (g := g) (code := code) hp h1 h2 (by omega)
    split
    · exact ih _ _ _ (by omega) hI.1 hI.2.1
    · exact ih _ _ _ (by omega) h1 h2
/-! the class's side -/
theorem c_noisy (sc : Grp) (x : Int32) : fX7_isNoisy sc x = some (if (toRow sc 25 >>> (x &&& 31)) &&& 1 = 1 then 1 else 0) := by
  unfold fX7_isNoisy
  rw [tr25]
  split <;> rfl
theorem c_abs : ∀ a, a < 10 → ∀ b, b < 10 → (if (0 : Int32) ≤ nI b - nI a then nI b - nI a else 0 - (nI b - nI a)) = sfar (nI a) (nI b) := by decide
theorem c_abs2 {a b : Int32} (ha : inN a 10) (hb : inN b 10) : (if (0 : Int32) ≤ b - a then b - a else 0 - (b - a)) = sfar a b := by
  obtain ⟨i, hi, rfl⟩ := ha
  obtain ⟨j, hj, rfl⟩ := hb
  exact c_abs i hi j hj
theorem c_heardAt (sc pl : Grp) {g : Nat} (hg : g < 4) (place reach : Int32) (hp : inN place 10) (hq : inN (pl 7 g) 10) : fX7_isHeardAt sc pl (nI g) place reach = some (if ¬ (toRow sc 25 >>> (nI g &&& 31)) &&& 1 = 1 ∧ sfar place (pl 7 g) ≤ reach then 1 else 0) := by
  unfold fX7_isHeardAt
  rw [c_noisy, bd_e]
  by_cases hn : (toRow sc 25 >>> (nI g &&& 31)) &&& 1 = 1
  · rw [if_pos hn, if_neg (by decide), if_neg (fun e => e.1 hn)]
  · rw [if_neg hn, if_pos rfl, ab_e (by omega) (by omega), nI_clamp (by omega), lt_e, c_abs2 hp hq]
    by_cases hf : sfar place (pl 7 g) ≤ reach
    · rw [if_pos hf, if_pos ⟨hn, hf⟩]
    · rw [if_neg hf, if_neg (fun e => hf e.2)]
theorem c_heard6 (pl : Grp) (code place reach : Int32) {G Fb : Nat} (hM : CP pl G Fb) (hp : inN place 10) : ∀ (n g fu : Nat) (sc : Grp) (s : Int32), g + n = G → n + 1 ≤ fu → RI G Fb (toRow sc) → WC G (toRow sc) →
    ∃ sc', fX7_heardByGates_6 pl fu sc code place reach s (nI g) = some ((ssend (pl 6) (pl 7) (pl 8) (pl 12) Fb place reach code n g s (toRow sc)).1, sc') ∧ toRow sc' = (ssend (pl 6) (pl 7) (pl 8) (pl 12) Fb place reach code n g s (toRow sc)).2 := by
  have hG := hM.2.2.1
  intro n
  induction n with
  | zero =>
    intro g fu sc s h1 h2 hR hW
    obtain ⟨fu, rfl⟩ : ∃ z, fu = z + 1 := ⟨fu - 1, by omega⟩
    unfold fX7_heardByGates_6 ssend
    rw [hM.1, if_neg (nI_nlt (by omega) (by omega))]
    exact ⟨sc, rfl, rfl⟩
  | succ n ih =>
    intro g fu sc s h1 h2 hR hW
    obtain ⟨fu, rfl⟩ : ∃ z, fu = z + 1 := ⟨fu - 1, by omega⟩
    unfold fX7_heardByGates_6 ssend
    rw [hM.1, if_pos (nI_lt (by omega) (by omega)), c_heardAt sc pl (by omega) place reach hp (hM.2.2.2.2.1 g (by omega)).2.1, bd_e]
    by_cases hh : ¬ (toRow sc 25 >>> (nI g &&& 31)) &&& 1 = 1 ∧ sfar place (pl 7 g) ≤ reach
    · rw [if_pos hh, if_neg (by decide), if_pos hh]
      obtain ⟨sc1, e1, e2⟩ := c_hears sc pl (g := g) (by omega) hM hR code
      rw [e1, bd_e]
      have hI := RI_hears (g := g) (code := code) hM.2.2 hR hW (by omega)
      by_cases hz : (shears (pl 6) (pl 8) (pl 12) Fb (toRow sc) g code).1 = 0
      · rw [if_pos hz, if_pos hz, lt_e, ix1, ← e2]
        exact ih (g + 1) fu sc1 s (by omega) (by omega) (by rw [e2]; exact hI.1) (by rw [e2]; exact hI.2.1)
      · rw [if_neg hz, if_neg hz, lt_e, lt_e, ix1, ← e2]
        exact ih (g + 1) fu sc1 _ (by omega) (by omega) (by rw [e2]; exact hI.1) (by rw [e2]; exact hI.2.1)
    · rw [if_neg hh, if_pos rfl, lt_e, ix1, if_neg hh]
      exact ih (g + 1) fu sc s (by omega) (by omega) hR hW
theorem c_heard (sc pl : Grp) {G Fb : Nat} (hM : CP pl G Fb) (hR : RI G Fb (toRow sc)) (hW : WC G (toRow sc)) (code place reach : Int32) (hp : inN place 10) :
    ∃ sc', fX7_heardByGates sc pl code place reach = some ((ssend (pl 6) (pl 7) (pl 8) (pl 12) Fb place reach code G 0 0 (toRow sc)).1, sc') ∧ toRow sc' = (ssend (pl 6) (pl 7) (pl 8) (pl 12) Fb place reach code G 0 0 (toRow sc)).2 := by
  have hG := hM.2.2.1
  unfold fX7_heardByGates
  exact c_heard6 pl code place reach hM hp G 0 1000 sc 0 (by omega) (by omega) hR hW
