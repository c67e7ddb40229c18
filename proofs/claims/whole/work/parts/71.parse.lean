/-! reading a text: blanks, numbers -/
def Ct (tx : Grp) (T : Row) (n : Nat) : Prop := n ≤ 240 ∧ tx 0 1 = nI n ∧ ∀ i, i < n → tx 1 i = T i ∧ inN (T i) 256
theorem wa_wr0 (g : Grp) (z : Row) (i : Nat) (v : Int32) : wr (wa g 0 z) 0 i v = wa g 0 (upd z i v) := wr_wa2 g 0 z i v
theorem upd_upd (r : Row) (i : Nat) (v w : Int32) : upd (upd r i v) i w = upd r i w := by
  funext j
  by_cases h : j = i <;> simp [upd, h]
theorem upd_id {r : Row} {i : Nat} {v : Int32} (h : r i = v) : upd r i v = r := by rw [← h]; exact upd_self r i
theorem c_letter {tx : Grp} {T : Row} {n a : Nat} (h : Ct tx T n) (ha : a ≤ n) : fX9_letterAt tx (nI a) = some (if a < n then T a else -1) := by
  have h1 := h.1
  unfold fX9_letterAt
  rw [if_neg (nI_pos (by omega)), h.2.1]
  by_cases hl : a < n
  · rw [if_pos (nI_lt (by omega) (by omega)), if_pos hl, ab_e (by omega) (by omega), nI_clamp (by omega), (h.2.2 a hl).1]
  · rw [if_neg (nI_nlt (by omega) (by omega)), if_neg hl]
def sk (T : Row) : Nat → Nat → Nat
  | 0, a => a
  | k + 1, a => if T a = 32 then sk T k (a + 1) else a
theorem sk_le (T : Row) : ∀ (k a : Nat), a ≤ sk T k a ∧ sk T k a ≤ a + k ∧ (sk T k a < a + k → ¬ T (sk T k a) = 32) := by
  intro k
  induction k with
  | zero => intro a; exact ⟨Nat.le_refl _, Nat.le_refl _, fun h => absurd h (Nat.lt_irrefl _)⟩
  | succ k ih =>
    intro a
    rw [sk]
    by_cases h : T a = 32
    · rw [if_pos h]
      obtain ⟨h1, h2, h3⟩ := ih (a + 1)
      exact ⟨by omega, by omega, fun q => h3 (by omega)⟩
    · rw [if_neg h]
      exact ⟨Nat.le_refl _, by omega, fun _ => h⟩
theorem sk_id {T : Row} {k a : Nat} (h : ¬ T a = 32) : sk T k a = a := by
  cases k with
  | zero => rfl
  | succ k => rw [sk, if_neg h]
theorem c_skip0 {tx : Grp} {T : Row} {n : Nat} (h : Ct tx T n) (rd : Grp) : ∀ (k a fu : Nat) (z : Row), a + k = n → k + 1 ≤ fu → z 2 = nI a → fX5_skipBlanks_0 tx fu (wa rd 0 z) = some (wa rd 0 (upd z 2 (nI (sk T k a)))) := by
  have h1 := h.1
  intro k
  induction k with
  | zero =>
    intro a fu z ha hfu hz
    obtain ⟨fu, rfl⟩ : ∃ z, fu = z + 1 := ⟨fu - 1, by omega⟩
    rw [fX5_skipBlanks_0, wa_row, hz, h.2.1, if_neg (nI_nlt (by omega) (by omega)), sk, upd_id hz]
  | succ k ih =>
    intro a fu z ha hfu hz
    obtain ⟨fu, rfl⟩ : ∃ z, fu = z + 1 := ⟨fu - 1, by omega⟩
    rw [fX5_skipBlanks_0, wa_row, hz, h.2.1, if_pos (nI_lt (by omega) (by omega)), c_letter h (by omega), bd_e, if_pos (show a < n by omega), sk]
    by_cases hb : T a = 32
    · rw [if_pos hb, if_pos hb, lt_e, wa_wr0, ix1, ih (a + 1) fu _ (by omega) (by omega) (by rw [upd_at]), upd_upd]
    · rw [if_neg hb, if_neg hb, upd_id hz]
theorem c_skip {tx : Grp} {T : Row} {n a : Nat} (h : Ct tx T n) (rd : Grp) (ha : a ≤ n) {z : Row} (hz : z 2 = nI a) : fX5_skipBlanks (wa rd 0 z) tx = some (wa rd 0 (upd z 2 (nI (sk T (n - a) a)))) := by
  have h1 := h.1
  exact c_skip0 h rd (n - a) a 1000 z (by omega) (by omega) hz
theorem m_here0 {T : Row} {n : Nat} (hn : n ≤ 240) (mo : Grp) (hT : mo 16 = T) : ∀ (k a fu : Nat) (y : Row), a + k = n → k + 1 ≤ fu → y 16 = nI n → y 18 = nI a → fX11_here_0 fu (wa mo 0 y) = some (if sk T k a < n then T (sk T k a) else -1, wa mo 0 (upd y 18 (nI (sk T k a)))) := by
  intro k
  induction k with
  | zero =>
    intro a fu y ha hfu h16 h18
    obtain ⟨fu, rfl⟩ : ∃ z, fu = z + 1 := ⟨fu - 1, by omega⟩
    have hlt : ¬ nI a < nI n := nI_nlt (by omega) (by omega)
    rw [fX11_here_0, fX11_here_38, wa_row, h18, h16, if_neg hlt, if_neg hlt, sk, if_neg (show ¬ a < n by omega), upd_id h18]
  | succ k ih =>
    intro a fu y ha hfu h16 h18
    obtain ⟨fu, rfl⟩ : ∃ z, fu = z + 1 := ⟨fu - 1, by omega⟩
    have hlt : nI a < nI n := nI_lt (by omega) (by omega)
    rw [fX11_here_0, fX11_here_38, wa_row, wa_oth _ (show ¬ 16 = 0 by omega), hT, h18, h16, if_pos hlt, if_pos hlt, ab_e (by omega) (by omega), ab_e (by omega) (by omega), nI_clamp (by omega), sk]
    by_cases hb : T a = 32
    · rw [if_pos hb, if_pos hb, lt_e, wa_wr0, ix1, ih (a + 1) fu _ (by omega) (by omega) (by rw [upd_ne (by omega)]; exact h16) (by rw [upd_at]), upd_upd]
    · rw [if_neg hb, if_neg hb, if_pos (show a < n by omega), upd_id h18]
theorem m_here {T : Row} {n a : Nat} (hn : n ≤ 240) (mo : Grp) (hT : mo 16 = T) (ha : a ≤ n) {y : Row} (h16 : y 16 = nI n) (h18 : y 18 = nI a) : fX11_here (wa mo 0 y) = some (if sk T (n - a) a < n then T (sk T (n - a) a) else -1, wa mo 0 (upd y 18 (nI (sk T (n - a) a)))) := m_here0 hn mo hT (n - a) a 1000 y (by omega) (by omega) h16 h18
abbrev isd (x : Int32) : Prop := 48 ≤ x ∧ x ≤ 57
theorem c_fig (x : Int32) : fX5_isFigure x = some (if isd x then 1 else 0) := by
  unfold fX5_isFigure
  by_cases h : x < 48
  · rw [if_pos h, if_neg (fun a => absurd h (Int32.not_lt.mpr a.1))]
  · rw [if_neg h]
    by_cases h2 : x ≤ 57
    · rw [if_pos h2, if_pos ⟨Int32.not_lt.mp h, h2⟩]
    · rw [if_neg h2, if_neg (fun a => h2 a.2)]
theorem m_fig (x : Int32) : fX11_in x.toInt64 (48 : Int64) (57 : Int64) = some (if isd x then 1 else 0) := m_in x 48 57
theorem isd_nI {c : Nat} (hc : c < 256) : isd (nI c) ↔ 48 ≤ c ∧ c ≤ 57 := by
  unfold isd
  rw [show (48 : Int32) = nI 48 from rfl, show (57 : Int32) = nI 57 from rfl, nI_le_iff (by omega) (by omega), nI_le_iff (by omega) (by omega)]
theorem y_norm (y : Row) (X Z A W : Int32) : upd (upd (upd (upd y 19 X) 18 Z) 18 A) 19 W = upd (upd y 18 A) 19 W := by
  funext i
  by_cases h18 : i = 18 <;> by_cases h19 : i = 19 <;> simp [upd, h18, h19]
theorem num_loop {tx : Grp} {T : Row} {n p : Nat} (h : Ct tx T n) (rd mo : Grp) (hT : mo 16 = T) (l u : Int32) : ∀ (k a fu : Nat) (z y : Row) (v : Int32), a + k = n → k + 1 ≤ fu → p ≤ a → z 2 = nI a → y 16 = nI n → y 18 = nI a → (a - p ≤ 3 → ∃ q, q < 10 ^ (a - p) ∧ v = nI q ∧ y 19 = nI q) →
    ∃ (a' : Nat) (v' w' : Int32), a ≤ a' ∧ a' ≤ n ∧ (a' = a ↔ ¬ (a < n ∧ isd (T a))) ∧ (a' - p ≤ 3 → ∃ q, q < 10 ^ (a' - p) ∧ v' = nI q ∧ w' = nI q) ∧
    fX5_readNumber_14 tx fu (wa rd 0 z) l u (nI p) v = fX5_readNumber_71 tx (wa rd 0 (upd z 2 (nI a'))) l u (nI p) v' ∧
    fX11_takeNumber_40 fu (wa mo 0 y) l u (nI p) = fX11_takeNumber_127 (wa mo 0 (upd (upd y 18 (nI a')) 19 w')) l u (nI p) := by
  have h1 := h.1
  intro k
  induction k with
  | zero =>
    intro a fu z y v ha hfu hp hz h16 h18 hv
    obtain ⟨fu, rfl⟩ : ∃ z, fu = z + 1 := ⟨fu - 1, by omega⟩
    have hlt : ¬ nI a < nI n := nI_nlt (by omega) (by omega)
    refine ⟨a, v, y 19, Nat.le_refl _, by omega, ⟨fun _ e => by omega, fun _ => rfl⟩, hv, ?_, ?_⟩
    · rw [fX5_readNumber_14, wa_row, hz, h.2.1, if_neg hlt, upd_id hz]
    · rw [fX11_takeNumber_40, wa_row, h18, h16, if_neg hlt, upd_id h18, upd_self]
  | succ k ih =>
    intro a fu z y v ha hfu hp hz h16 h18 hv
    obtain ⟨fu, rfl⟩ : ∃ z, fu = z + 1 := ⟨fu - 1, by omega⟩
    have hlt : nI a < nI n := nI_lt (by omega) (by omega)
    rw [fX5_readNumber_14, fX11_takeNumber_40, wa_row, wa_row, hz, h18, h16, h.2.1, if_pos hlt, if_pos hlt, c_letter h (by omega), bd_e, if_pos (show a < n by omega), ab_e (by omega) (by omega), wa_oth _ (show ¬ 16 = 0 by omega), hT, nI_clamp (by omega)]
    by_cases hd : isd (T a)
    · rw [show fX5_isFigure (T a) = some 1 from by rw [c_fig, if_pos hd], show fX11_in (T a).toInt64 (48 : Int64) (57 : Int64) = some 1 from by rw [m_fig, if_pos hd], bd_e, if_neg i10, bd_e, lt_e, lt_e, wa_wr0, ix1, bd_e, if_neg i10]
      obtain ⟨c, hc, ec⟩ := (h.2.2 a (by omega)).2
      have hd2 : 48 ≤ c ∧ c ≤ 57 := by rw [ec] at hd; exact (isd_nI hc).mp hd
      -- the model's next number
      have hm : ∃ X : Int32, (if y 19 ≤ 10000 then d_ab (nI a) 240 (d_lt (wr (wa mo 0 y) 0 19 (((10 : Int32) * (y 19) + T a) - 48)) fun g16 => d_lt (wr g16 0 18 (g16 0 18 + 1)) fun g17 => fX11_takeNumber_40 fu g17 l u (nI p)) else d_lt (wr (wa mo 0 y) 0 19 (y 19)) fun g18 => d_lt (wr g18 0 18 (g18 0 18 + 1)) fun g19 => fX11_takeNumber_40 fu g19 l u (nI p)) = fX11_takeNumber_40 fu (wa mo 0 (upd (upd y 19 X) 18 (nI (a + 1)))) l u (nI p) ∧ (a + 1 - p ≤ 3 → ∃ q, q < 10 ^ (a + 1 - p) ∧ v * 10 + T a - 48 = nI q ∧ X = nI q) := by
        have hw : ∀ X : Int32, wr (wr (wa mo 0 y) 0 19 X) 0 18 (wr (wa mo 0 y) 0 19 X 0 18 + 1) = wa mo 0 (upd (upd y 19 X) 18 (nI (a + 1))) := by
          intro X
          rw [wa_wr0, wa_row, upd_ne (by omega), h18, ix1, wa_wr0]
        by_cases hle : y 19 ≤ 10000
        · refine ⟨((10 : Int32) * (y 19) + T a) - 48, ?_, fun h3 => ?_⟩
          · rw [if_pos hle, ab_e (by omega) (by omega), lt_e, lt_e, hw]
          · obtain ⟨q, q1, q2, q3⟩ := hv (by omega)
            have hq : q < 1000 := by
              have : 10 ^ (a - p) ≤ 10 ^ 3 := Nat.pow_le_pow_right (by omega) (by omega)
              omega
            have e10 : 10 ^ (a + 1 - p) = 10 ^ (a - p) * 10 := by rw [show a + 1 - p = (a - p) + 1 from by omega, Nat.pow_succ]
            refine ⟨q * 10 + c - 48, by omega, ?_, ?_⟩
            · rw [q2, ec, show (10 : Int32) = nI 10 from rfl, nI_mul, nI_ad]
              exact pk_sub (b := 48) (by omega)
            · rw [q3, ec, show (10 : Int32) = nI 10 from rfl, nI_mul, nI_ad, Nat.mul_comm]
              exact pk_sub (b := 48) (by omega)
        · refine ⟨y 19, ?_, fun h3 => ?_⟩
          · rw [if_neg hle, lt_e, lt_e, hw]
          · obtain ⟨q, q1, q2, q3⟩ := hv (by omega)
            have hq : q < 1000 := by
              have : 10 ^ (a - p) ≤ 10 ^ 3 := Nat.pow_le_pow_right (by omega) (by omega)
              omega
            exact absurd (show y 19 ≤ 10000 from by rw [q3]; exact nI_le (b := 10000) (by omega) (by omega)) hle
      obtain ⟨X, x1, x2⟩ := hm
      rw [x1]
      obtain ⟨a', v', w', b1, b2, b3, b4, b5, b6⟩ := ih (a + 1) fu (upd z 2 (nI (a + 1))) (upd (upd y 19 X) 18 (nI (a + 1))) (v * 10 + T a - 48) (by omega) (by omega) (by omega) (by rw [upd_at]) (by rw [upd_ne (by omega), upd_ne (by omega)]; exact h16) (by rw [upd_at]) (fun h3 => by rw [upd_ne (by omega), upd_at]; exact x2 h3)
      rw [upd_upd] at b5
      rw [y_norm] at b6
      exact ⟨a', v', w', by omega, b2, ⟨fun e => by omega, fun e => absurd ⟨by omega, hd⟩ e⟩, b4, b5, b6⟩
    · rw [show fX5_isFigure (T a) = some 0 from by rw [c_fig, if_neg hd], show fX11_in (T a).toInt64 (48 : Int64) (57 : Int64) = some 0 from by rw [m_fig, if_neg hd], bd_e, if_pos i00, bd_e, if_pos i00]
      refine ⟨a, v, y 19, Nat.le_refl _, by omega, ⟨fun _ e => hd e.2, fun _ => rfl⟩, hv, ?_, ?_⟩
      · rw [upd_id hz]
      · rw [upd_id h18, upd_self]
/-- one number: read alike, or refused alike -/
theorem num2 {tx : Grp} {T : Row} {n a l u : Nat} (h : Ct tx T n) (rd mo : Grp) (hT : mo 16 = T) (ha : a ≤ n) (hlu : l < 1000) (hu : u < 1000) {z y : Row} (hz : z 2 = nI a) (h16 : y 16 = nI n) (h18 : y 18 = nI a) :
    ∃ a', a ≤ a' ∧ a' ≤ n ∧ ((∃ v, l ≤ v ∧ v ≤ u ∧ fX5_readNumber (wa rd 0 z) tx (nI l) (nI u) = some (nI v, wa rd 0 (upd z 2 (nI a'))) ∧ fX11_takeNumber (wa mo 0 y) (nI l) (nI u) = some (0, wa mo 0 (upd (upd y 18 (nI a')) 19 (nI v)))) ∨
      (∃ (e v : Int32) (p : Nat) (y' : Row), (e = 1 ∨ e = 2) ∧ p ≤ n ∧ fX5_readNumber (wa rd 0 z) tx (nI l) (nI u) = some (v, wa rd 0 (upd (upd (upd z 2 (nI a')) 3 e) 4 (nI p))) ∧ fX11_takeNumber (wa mo 0 y) (nI l) (nI u) = some (e, wa mo 0 y') ∧ y' 17 = nI p ∧ ∀ i, ¬ i = 17 → ¬ i = 18 → ¬ i = 19 → y' i = y i)) := by
  have h1 := h.1
  have hs := sk_le T (n - a) a
  have ef : ∀ (z : Row) (e : Int32) (x : Int32), fX5_fail (wa rd 0 z) e x = some (wa rd 0 (upd (upd z 3 e) 4 x)) := by
    intro z e x
    unfold fX5_fail
    rw [lt_e, lt_e, wa_wr0, wa_wr0]
  have em : ∀ (y : Row) (e : Int32) (x : Int32), fX11_fails (wa mo 0 y) e x = some (e, wa mo 0 (upd y 17 x)) := by
    intro y e x
    unfold fX11_fails
    rw [lt_e, wa_wr0]
  generalize hp : sk T (n - a) a = p at hs
  obtain ⟨a', v', w', b1, b2, b3, b4, b5, b6⟩ := num_loop (p := p) h rd mo hT (nI l) (nI u) (n - p) p 1000 (upd z 2 (nI p)) (upd (upd y 18 (nI p)) 19 0) 0 (by omega) (by omega) (Nat.le_refl _) (by rw [upd_at]) (by rw [upd_ne (by omega), upd_ne (by omega)]; exact h16) (by rw [upd_ne (by omega), upd_at]) (fun _ => ⟨0, Nat.pow_pos (by omega), rfl, by rw [upd_at]; rfl⟩)
  rw [upd_upd] at b5
  have yn : upd (upd (upd (upd y 18 (nI p)) 19 0) 18 (nI a')) 19 w' = upd (upd y 18 (nI a')) 19 w' := by
    funext i
    by_cases h18 : i = 18 <;> by_cases h19 : i = 19 <;> simp [upd, h18, h19]
  rw [yn] at b6
  refine ⟨a', by omega, b2, ?_⟩
  have hc : fX5_readNumber (wa rd 0 z) tx (nI l) (nI u) = fX5_readNumber_71 tx (wa rd 0 (upd z 2 (nI a'))) (nI l) (nI u) (nI p) v' := by
    unfold fX5_readNumber
    rw [c_skip h rd ha hz, bd_e, lt_e, hp, wa_row, upd_at, b5]
  have hm : fX11_takeNumber (wa mo 0 y) (nI l) (nI u) = if p < n ∧ isd (T p) then fX11_takeNumber_127 (wa mo 0 (upd (upd y 18 (nI a')) 19 w')) (nI l) (nI u) (nI p) else some (1, wa mo 0 (upd (upd y 18 (nI p)) 17 (nI p))) := by
    unfold fX11_takeNumber
    rw [m_here h1 mo hT ha h16 h18, bd_e, hp]
    dsimp only
    rw [m_fig, bd_e]
    by_cases hl : p < n
    · rw [if_pos hl]
      by_cases hd : isd (T p)
      · rw [if_pos hd, if_neg i10, if_pos ⟨hl, hd⟩, lt_e, lt_e, wa_wr0, wa_row, upd_at, b6]
      · rw [if_neg hd, if_pos i00, if_neg (fun e => hd e.2), wa_row, upd_at, em, bd_e]
    · rw [if_neg hl, if_neg (show ¬ isd (-1) by decide), if_pos i00, if_neg (fun e => hl e.1), wa_row, upd_at, em, bd_e]
  rw [hc, hm]
  unfold fX5_readNumber_71 fX5_readNumber_113 fX11_takeNumber_127 fX11_takeNumber_153
  rw [wa_row, upd_at, lt_e, show nI a' - nI p = nI (a' - p) from pk_sub (by omega)]
  by_cases hdig : p < n ∧ isd (T p)
  · have hne : ¬ a' = p := fun e => (b3.mp e) hdig
    rw [if_pos hdig, if_neg (fun e => hne (by have := (nI_inj (a := a' - p) (b := 0) (by omega) (by omega)).mp e; omega)), wa_row, upd_ne (show ¬ 18 = 19 by omega), upd_at, show nI a' - nI p = nI (a' - p) from pk_sub (by omega), upd_at, m_in]
    have hy : ∀ i, ¬ i = 17 → ¬ i = 18 → ¬ i = 19 → upd (upd (upd y 18 (nI a')) 19 w') 17 (nI p) i = y i := fun i h1 h2 h3 => by rw [upd_ne h1, upd_ne h3, upd_ne h2]
    by_cases h3 : a' - p ≤ 3
    · obtain ⟨q, q1, q2, q3⟩ := b4 h3
      have hq : q < 1000 := by
        have : 10 ^ (a' - p) ≤ 10 ^ 3 := Nat.pow_le_pow_right (by omega) (by omega)
        omega
      have hle : nI (a' - p) ≤ 3 := nI_le (b := 3) (by omega) (by omega)
      rw [if_pos hle, if_pos hle, q2, q3, bd_e]
      by_cases hl : l ≤ q ∧ q ≤ u
      · left
        refine ⟨q, hl.1, hl.2, ?_, ?_⟩
        · rw [if_neg (nI_nlt (by omega) (by omega)), if_pos (nI_le (by omega) (by omega))]
        · rw [if_pos (show nI l ≤ nI q ∧ nI q ≤ nI u from ⟨nI_le (by omega) (by omega), nI_le (by omega) (by omega)⟩), if_neg i10]
      · right
        refine ⟨2, nI q, p, upd (upd (upd y 18 (nI a')) 19 (nI q)) 17 (nI p), Or.inr rfl, by omega, ?_, ?_, upd_at _ _ _, by rw [← q3]; exact hy⟩
        · rw [ef, bd_e]
          by_cases hql : q < l
          · rw [if_pos (nI_lt (by omega) (by omega))]
          · rw [if_neg (nI_nlt (by omega) (by omega)), if_neg (fun e => by have := (nI_le_iff (by omega) (by omega)).mp e; omega)]
        · have hin : ¬ (nI l ≤ nI q ∧ nI q ≤ nI u) := fun e => hl ⟨(nI_le_iff (by omega) (by omega)).mp e.1, (nI_le_iff (by omega) (by omega)).mp e.2⟩
          rw [if_neg hin, if_pos i00, em, bd_e]
    · have hle : ¬ nI (a' - p) ≤ 3 := fun e => h3 ((nI_le_iff (b := 3) (by omega) (by omega)).mp e)
      rw [if_neg hle, if_neg hle]
      right
      exact ⟨2, v', p, _, Or.inr rfl, by omega, by rw [ef, bd_e], by rw [em, bd_e], upd_at _ _ _, hy⟩
  · have he : a' = p := b3.mpr hdig
    rw [if_neg hdig, he, Nat.sub_self, if_pos (show nI 0 = 0 from rfl)]
    right
    exact ⟨1, v', p, _, Or.inl rfl, by omega, by rw [ef, bd_e], rfl, upd_at _ _ _, fun i h1 h2 h3 => by rw [upd_ne h1, upd_ne h2]⟩
