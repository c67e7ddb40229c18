/-! copies -/
theorem toRow_ext {a b : Grp} (h0 : ∀ f, f < 5 → a 7 f = b 7 f) (h5 : ∀ f, f < 5 → a 8 f = b 8 f) (h10 : ∀ f, f < 5 → a 9 f = b 9 f) (h15 : a 0 2 = b 0 2) (h16 : a 0 4 = b 0 4) (h17 : ∀ f, f < 8 → a 6 f = b 6 f) (h25 : a 0 3 = b 0 3) (h26 : ∀ f, f < 4 → a 10 f = b 10 f) (h30 : ∀ f, f < 4 → a 11 f = b 11 f) (h34 : ∀ f, f < 4 → a 12 f = b 12 f) (h38 : ∀ f, f < 20 → a 13 f = b 13 f) (h58 : a 0 1 = b 0 1) : toRow a = toRow b := by
  funext i
  by_cases hi : i < 59
  · rcases (show i < 5 ∨ (∃ f, f < 5 ∧ i = 5 + f) ∨ (∃ f, f < 5 ∧ i = 10 + f) ∨ i = 15 ∨ i = 16 ∨ (∃ f, f < 8 ∧ i = 17 + f) ∨ i = 25 ∨ (∃ f, f < 4 ∧ i = 26 + f) ∨ (∃ f, f < 4 ∧ i = 30 + f) ∨ (∃ f, f < 4 ∧ i = 34 + f) ∨ (∃ f, f < 20 ∧ i = 38 + f) ∨ i = 58 by
      by_cases c1 : i < 5
      · exact Or.inl c1
      by_cases c2 : i < 10
      · exact Or.inr (Or.inl ⟨i - 5, by omega, by omega⟩)
      by_cases c3 : i < 15
      · exact Or.inr (Or.inr (Or.inl ⟨i - 10, by omega, by omega⟩))
      by_cases c4 : i < 17
      · by_cases e : i = 15
        · exact Or.inr (Or.inr (Or.inr (Or.inl e)))
        · exact Or.inr (Or.inr (Or.inr (Or.inr (Or.inl (by omega)))))
      by_cases c5 : i < 25
      · exact Or.inr (Or.inr (Or.inr (Or.inr (Or.inr (Or.inl ⟨i - 17, by omega, by omega⟩)))))
      by_cases c6 : i < 26
      · exact Or.inr (Or.inr (Or.inr (Or.inr (Or.inr (Or.inr (Or.inl (by omega)))))))
      by_cases c7 : i < 30
      · exact Or.inr (Or.inr (Or.inr (Or.inr (Or.inr (Or.inr (Or.inr (Or.inl ⟨i - 26, by omega, by omega⟩)))))))
      by_cases c8 : i < 34
      · exact Or.inr (Or.inr (Or.inr (Or.inr (Or.inr (Or.inr (Or.inr (Or.inr (Or.inl ⟨i - 30, by omega, by omega⟩))))))))
      by_cases c9 : i < 38
      · exact Or.inr (Or.inr (Or.inr (Or.inr (Or.inr (Or.inr (Or.inr (Or.inr (Or.inr (Or.inl ⟨i - 34, by omega, by omega⟩)))))))))
      by_cases c10 : i < 58
      · exact Or.inr (Or.inr (Or.inr (Or.inr (Or.inr (Or.inr (Or.inr (Or.inr (Or.inr (Or.inr (Or.inl ⟨i - 38, by omega, by omega⟩))))))))))
      · exact Or.inr (Or.inr (Or.inr (Or.inr (Or.inr (Or.inr (Or.inr (Or.inr (Or.inr (Or.inr (Or.inr (by omega)))))))))))) with h | ⟨f, hf, rfl⟩ | ⟨f, hf, rfl⟩ | rfl | rfl | ⟨f, hf, rfl⟩ | rfl | ⟨f, hf, rfl⟩ | ⟨f, hf, rfl⟩ | ⟨f, hf, rfl⟩ | ⟨f, hf, rfl⟩ | rfl
    · rw [tr0 h, tr0 h, h0 i h]
    · rw [tr5 hf, tr5 hf, h5 f hf]
    · rw [tr10 hf, tr10 hf, h10 f hf]
    · rw [tr15, tr15, h15]
    · rw [tr16, tr16, h16]
    · rw [tr17 hf, tr17 hf, h17 f hf]
    · rw [tr25, tr25, h25]
    · rw [tr26 hf, tr26 hf, h26 f hf]
    · rw [tr30 hf, tr30 hf, h30 f hf]
    · rw [tr34 hf, tr34 hf, h34 f hf]
    · rw [toRow_at hi (ph38 f hf), toRow_at hi (ph38 f hf), h38 f hf]
    · rw [tr58, tr58, h58]
  · simp [toRow, hi]
theorem cpy_at {f g : Nat → Int32} {n k : Nat} (h : k < n) : va_cpy f g 0 0 n k = f k := by
  unfold va_cpy
  rw [if_pos (by omega)]
  congr 1
  omega
theorem c_copy (sc sd : Grp) : ∃ sc', fX7_copyFrom sc sd = some sc' ∧ toRow sc' = toRow sd := by
  unfold fX7_copyFrom
  simp only [lt_e, show (0 : Int32).toNatClampNeg = 0 from rfl, show (8 : Int32).toNatClampNeg = 8 from rfl, show (5 : Int32).toNatClampNeg = 5 from rfl, show (4 : Int32).toNatClampNeg = 4 from rfl, show (20 : Int32).toNatClampNeg = 20 from rfl]
  refine ⟨_, rfl, ?_⟩
  refine toRow_ext (fun f hf => ?_) (fun f hf => ?_) (fun f hf => ?_) rfl rfl (fun f hf => ?_) rfl (fun f hf => ?_) (fun f hf => ?_) (fun f hf => ?_) (fun f hf => ?_) rfl
  · exact cpy_at hf
  · exact cpy_at hf
  · exact cpy_at hf
  · exact cpy_at hf
  · exact cpy_at hf
  · exact cpy_at hf
  · exact cpy_at hf
  · exact cpy_at hf
/-- a row of the model copied into another -/
def cpyN (f g : Row) (n : Nat) : Row := fun i => if i < n then f i else g i
theorem cpyN_succ (f g : Row) (k : Nat) : upd (cpyN f g k) k (f k) = cpyN f g (k + 1) := by
  funext i
  by_cases e : i = k
  · subst e; rw [upd_at]; simp [cpyN]
  · rw [upd_ne e]
    simp only [cpyN]
    by_cases h : i < k
    · rw [if_pos h, if_pos (by omega)]
    · rw [if_neg h, if_neg (by omega)]
theorem m_copy2 {i0 n0 i1 n1 : Nat} (hne : ¬ i0 = i1) (m : Nat) (h0 : m ≤ n0) (h1 : m ≤ n1) (hb : n0 < 2 ^ 31) (hb1 : n1 < 2 ^ 31) (mo : Grp) : ∀ (n k fu : Nat), k + n = m → n + 1 ≤ fu → fX11_copyRow_2 i0 n0 i1 n1 fu (wa mo (i1 + 1) (cpyN (mo (i0 + 1)) (mo (i1 + 1)) k)) (nI m) (nI k) = some (wa mo (i1 + 1) (cpyN (mo (i0 + 1)) (mo (i1 + 1)) m)) := by
  intro n
  induction n with
  | zero =>
    intro k fu hk hf
    obtain ⟨fu, rfl⟩ : ∃ z, fu = z + 1 := ⟨fu - 1, by omega⟩
    rw [fX11_copyRow_2, if_neg (nI_nlt (by omega) (by omega)), show k = m from by omega]
  | succ n ih =>
    intro k fu hk hf
    obtain ⟨fu, rfl⟩ : ∃ z, fu = z + 1 := ⟨fu - 1, by omega⟩
    rw [fX11_copyRow_2, if_pos (nI_lt (by omega) (by omega)), ab_e (by omega) (by omega), ab_e (by omega) (by omega), lt_e, lt_e, nI_clamp (by omega), ix1, wr_wa2, wa_oth _ (by omega), cpyN_succ]
    exact ih (k + 1) fu (by omega) (by omega)
theorem m_copy {i0 n0 i1 n1 : Nat} (hne : ¬ i0 = i1) (m : Nat) (h0 : m ≤ n0) (h1 : m ≤ n1) (hb : n0 < 900) (hb1 : n1 < 2 ^ 31) (mo : Grp) : fX11_copyRow mo i0 n0 i1 n1 (nI m) = some (wa mo (i1 + 1) (cpyN (mo (i0 + 1)) (mo (i1 + 1)) m)) := by
  unfold fX11_copyRow
  have e := m_copy2 hne m h0 h1 (by omega) hb1 mo m 0 1000 (by omega) (by omega)
  rw [show cpyN (mo (i0 + 1)) (mo (i1 + 1)) 0 = mo (i1 + 1) from by funext i; simp [cpyN], wa_self] at e
  exact e
theorem m_keepNow (mo : Grp) : fX11_keepNow mo = some (wa mo 35 (cpyN (mo 14) (mo 35) 59)) := by
  unfold fX11_keepNow
  rw [show (59 : Int32) = nI 59 from rfl, m_copy (by omega) 59 (by omega) (by omega) (by omega) (by omega), bd_e]
theorem m_putBack (mo : Grp) : fX11_putBack mo = some (wa mo 14 (cpyN (mo 35) (mo 14) 59)) := by
  unfold fX11_putBack
  rw [show (59 : Int32) = nI 59 from rfl, m_copy (by omega) 59 (by omega) (by omega) (by omega) (by omega), bd_e]
/-- rows alike on their 59 places -/
def E59 (r r' : Row) : Prop := ∀ i, i < 59 → r i = r' i
theorem E59_cpy (f g : Row) : E59 (cpyN f g 59) f := fun i hi => by simp [cpyN, hi]
theorem E59_RI {G : Nat} {Fb : Nat} {r r' : Row} (hF : Fb ≤ 5) (h : E59 r r') (hI : RI G Fb r') : RI G Fb r := by
  obtain ⟨a1, a2, a3, a4, a5, a6, a7, a8, a9, a10⟩ := hI
  exact ⟨fun g hg => by rw [h _ (by omega)]; exact a1 g hg, fun g hg => by rw [h _ (by omega)]; exact a2 g hg, by rw [h _ (by omega)]; exact a3, by rw [h _ (by omega)]; exact a4, fun f hf => by rw [h _ (by omega)]; exact a5 f hf, by rw [h _ (by omega)]; exact a6, fun f hf => by rw [h _ (by omega)]; exact a7 f hf, fun f hf => by rw [h _ (by omega)]; exact a8 f hf, fun g hg f hf => by rw [h _ (by omega)]; exact a9 g hg f hf, trivial⟩
theorem E59_WC {G : Nat} {r r' : Row} (h : E59 r r') (hW : WC G r') : WC G r := fun g hg => by rw [h _ (by omega), h _ (by omega)]; exact hW g hg
theorem E59_RR {G : Nat} {Fb : Nat} {rc r r' : Row} (h : E59 r r') (hR : RR G Fb rc r') : RR G Fb rc r := by
  refine ⟨fun i hi => ?_, fun i hi hk => ?_⟩
  · rw [h _ (by have := hi.1; omega)]; exact hR.1 i hi
  · rw [h _ (by omega)] at hk
    rw [h _ (by omega)]; exact hR.2 i hi hk
/-- a state of the class and one of the model -/
def SS (G Fb : Nat) (rc rm : Row) : Prop := RR G Fb rc rm ∧ RI G Fb rm ∧ WC G rm ∧ rc 58 = rm 58 ∧ inN (rm 58) 9061
theorem SS_E59 {G : Nat} {Fb : Nat} {rc r r' : Row} (hF : Fb ≤ 5) (h : E59 r r') (hS : SS G Fb rc r') : SS G Fb rc r := ⟨E59_RR h hS.1, E59_RI hF h hS.2.1, E59_WC h hS.2.2.1, by rw [h _ (by omega)]; exact hS.2.2.2.1, by rw [h _ (by omega)]; exact hS.2.2.2.2⟩
