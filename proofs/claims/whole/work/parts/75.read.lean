/-! the whole text -/
theorem read_loop {tx mo0 : Grp} {n : Nat} : ∀ (k a c fu fum : Nat) (rd : Grp) (z : Row) (df M : Grp) (y : Row), n - a ≤ k → c ≤ a → k + 1 ≤ fu → k + 2 ≤ fum → PR tx mo0 n a z df M y →
    (∃ (rd' : Grp) (z' : Row) (df' M' : Grp) (y' : Row), fX5_read_29 tx fu (wa rd 0 (upd z 2 (nI (sk (M 16) (n - a) a)))) df (nI c) = some (wa rd' 0 z', df') ∧ fX11_street_27 fum (wa M 0 y) 0 = fX11_street_46 (wa M' 0 y') 0 ∧ PR tx mo0 n n z' df' M' y') ∨
    (∃ (e : Int32) (p : Nat) (rd' : Grp) (z' : Row) (df' M' : Grp) (y' : Row), (e = 1 ∨ e = 2 ∨ e = 3) ∧ p ≤ n ∧ fX5_read_29 tx fu (wa rd 0 (upd z 2 (nI (sk (M 16) (n - a) a)))) df (nI c) = some (wa rd' 0 z', df') ∧ z' 3 = e ∧ z' 4 = nI p ∧ fX11_street_27 fum (wa M 0 y) 0 = fX11_street_46 (wa M' 0 y') e ∧ y' 17 = nI p ∧ FrM mo0 M' ∧ FrY mo0 y') := by
  intro k
  induction k with
  | zero =>
    intro a c fu fum rd z df M y hk hc hfu hfum h
    obtain ⟨fu, rfl⟩ : ∃ z, fu = z + 1 := ⟨fu - 1, by omega⟩
    obtain ⟨fum, rfl⟩ : ∃ z, fum = z + 1 := ⟨fum - 1, by omega⟩
    obtain ⟨ha, hC, hz, hz3, hz4, h16, h17, h18, hD, hM, hY⟩ := h
    obtain rfl : a = n := by omega
    have h1 := hC.1
    left
    refine ⟨rd, upd z 2 (nI a), df, M, upd y 18 (nI a), ?_, ?_, Nat.le_refl _, hC, by rw [upd_at], by rw [upd_ne (by omega)]; exact hz3, by rw [upd_ne (by omega)]; exact hz4, by rw [upd_ne (by omega)]; exact h16, by rw [upd_ne (by omega)]; exact h17, by rw [upd_at], ?_, hM, FrY_upd hY (by omega) _⟩
    · rw [Nat.sub_self, sk, fX5_read_29, wa_row, upd_at, hC.2.1, if_neg (nI_nlt (Nat.le_refl _) (by omega))]
      split <;> rfl
    · have hh := m_here (T := M 16) h1 M rfl ha h16 h18
      rw [Nat.sub_self, sk, if_neg (Nat.lt_irrefl _)] at hh
      rw [fX11_street_27, if_pos i00, hh, bd_e]
      dsimp only
      rw [if_pos (show (-1 : Int32) < 0 by decide)]
    · rw [upd_id h18]; exact hD
  | succ k ih =>
    intro a c fu fum rd z df M y hk hc hfu hfum h
    obtain ⟨fu, rfl⟩ : ∃ z, fu = z + 1 := ⟨fu - 1, by omega⟩
    obtain ⟨fum, rfl⟩ : ∃ z, fum = z + 1 := ⟨fum - 1, by omega⟩
    obtain ⟨ha, hC, hz, hz3, hz4, h16, h17, h18, hD, hM, hY⟩ := h
    have h1 := hC.1
    have hs := sk_le (M 16) (n - a) a
    have hh := m_here (T := M 16) h1 M rfl ha h16 h18
    generalize he : sk (M 16) (n - a) a = s at hs hh
    have hP : PR tx mo0 n s (upd z 2 (nI s)) df M (upd y 18 (nI s)) := by
      refine ⟨by omega, hC, by rw [upd_at], by rw [upd_ne (by omega)]; exact hz3, by rw [upd_ne (by omega)]; exact hz4, by rw [upd_ne (by omega)]; exact h16, by rw [upd_ne (by omega)]; exact h17, by rw [upd_at], ?_, hM, FrY_upd hY (by omega) _⟩
      obtain ⟨g, f, dg, df5, d3, d22, d4, d26, d0, dE, dG, dF⟩ := hD
      refine ⟨g, f, dg, df5, d3, by rw [upd_ne (by omega)]; exact d22, d4, by rw [upd_ne (by omega)]; exact d26, by rw [upd_ne (by omega)]; exact d0, ?_, dG, dF⟩
      rw [upd_ne (by omega)]
      exact dE
    by_cases hl : s < n
    · rw [if_pos hl] at hh
      have hb : ¬ M 16 s = 32 := hs.2.2 (by omega)
      have hnn : ¬ M 16 s < 0 := by
        obtain ⟨q, hq, eq⟩ := (hC.2.2 s hl).2
        rw [eq]; exact nI_pos (by omega)
      have ec : fX5_read_29 tx (fu + 1) (wa rd 0 (upd z 2 (nI s))) df (nI c) = d_bd (fX5_readClause (wa rd 0 (upd z 2 (nI s))) df tx) fun q9 => d_bd (fX5_skipBlanks q9.1 tx) fun q10 => fX5_read_29 tx fu q10 q9.2 (nI (c + 1)) := by
        rw [fX5_read_29, if_pos (show nI c < 240 from nI_lt (b := 240) (by omega) (by omega)), wa_row, upd_at, hC.2.1, if_pos (nI_lt (by omega) (by omega)), upd_ne (show ¬ 3 = 2 by omega), if_pos hz3]
        simp only [lt_e, ix1]
      have em : fX11_street_27 (fum + 1) (wa M 0 y) 0 = d_bd (fX11_takeClause (wa M 0 (upd y 18 (nI s)))) fun q19 => fX11_street_27 fum q19.2 q19.1 := by
        rw [fX11_street_27, if_pos i00, hh, bd_e]
        dsimp only
        rw [if_neg hnn]
      rw [ec, em]
      rcases clause2 (rd := rd) hP hl hb with ⟨a', rd', z', df', M', y', q1, q2, q3, q4⟩ | ⟨e, p, a', rd', z', df', M', y', f1, f2, f3, f4, f5, f6, f7, f8, f9, f10, f11⟩
      · rw [q2, q3, bd_e, bd_e]
        dsimp only
        have hz' := q4.2.2.1
        have hC' := q4.2.1
        rw [c_skip hC' rd' q4.1 hz', bd_e]
        exact ih a' (c + 1) fu fum rd' z' df' M' y' (by omega) (by omega) (by omega) (by omega) q4
      · rw [f4, f8, bd_e, bd_e]
        dsimp only
        rw [c_skip hC rd' f3 f5, bd_e]
        right
        obtain ⟨fu, rfl⟩ : ∃ z, fu = z + 1 := ⟨fu - 1, by omega⟩
        obtain ⟨fum, rfl⟩ : ∃ z, fum = z + 1 := ⟨fum - 1, by omega⟩
        refine ⟨e, p, rd', upd z' 2 (nI (sk (M 16) (n - a') a')), df', M', y', f1, f2, ?_, by rw [upd_ne (by omega)]; exact f6, by rw [upd_ne (by omega)]; exact f7, ?_, f9, f10, f11⟩
        · rw [fX5_read_29, wa_row, upd_ne (show ¬ 3 = 2 by omega), f6, if_neg (e12 f1).1]
          split
          · split <;> rfl
          · rfl
        · rw [fX11_street_27, if_neg (e12 f1).1]
    · rw [if_neg hl] at hh
      have : s = n := by omega
      subst this
      left
      refine ⟨rd, upd z 2 (nI s), df, M, upd y 18 (nI s), ?_, ?_, hP⟩
      · rw [fX5_read_29, wa_row, upd_at, hC.2.1, if_neg (nI_nlt (Nat.le_refl _) (by omega))]
        split <;> rfl
      · rw [fX11_street_27, if_pos i00, hh, bd_e]
        dsimp only
        rw [if_pos (show (-1 : Int32) < 0 by decide)]
/-- the reading as a whole, from a class's and a model's state -/
theorem read2 {tx rd df mo : Grp} (h : Tx tx mo) :
    (∃ (n : Nat) (rd' : Grp) (z' : Row) (df' M' : Grp) (y' : Row), fX5_read rd df tx = some (wa rd' 0 z', df') ∧ fX11_street mo = fX11_street_46 (wa M' 0 y') 0 ∧ PR tx mo n n z' df' M' y') ∨
    (∃ (n : Nat) (e : Int32) (p : Nat) (rd' : Grp) (z' : Row) (df' M' : Grp) (y' : Row), (e = 1 ∨ e = 2 ∨ e = 3) ∧ p ≤ n ∧ fX5_read rd df tx = some (wa rd' 0 z', df') ∧ z' 3 = e ∧ z' 4 = nI p ∧ fX11_street mo = fX11_street_46 (wa M' 0 y') e ∧ y' 17 = nI p ∧ FrM mo M' ∧ FrY mo y') := by
  obtain ⟨n, hn, t1, t2, t3⟩ := h
  have hC : Ct tx (mo 16) n := ⟨hn, t1, t3⟩
  have eM : wr (wr (wr (wr (wr mo 0 17 (-1)) 0 18 0) 0 20 0) 0 22 0) 0 26 0 = wa mo 0 (upd (upd (upd (upd (upd (mo 0) 17 (-1)) 18 0) 20 0) 22 0) 26 0) := by
    have : mo = wa mo 0 (mo 0) := (wa_self mo 0).symm
    rw [← wa_wr0, ← wa_wr0, ← wa_wr0, ← wa_wr0, ← wa_wr0, ← this]
  have eR : wr (wr (wr rd 0 2 0) 0 3 0) 0 4 (-1) = wa rd 0 (upd (upd (upd (rd 0) 2 0) 3 0) 4 (-1)) := by
    have : rd = wa rd 0 (rd 0) := (wa_self rd 0).symm
    rw [← wa_wr0, ← wa_wr0, ← wa_wr0, ← this]
  have eD : fX4_clear df = some (wr (wr (wr (wr (wr df 0 0 0) 0 1 0) 0 2 0) 0 3 0) 0 4 0) := rfl
  have hP : PR tx mo n 0 (upd (upd (upd (rd 0) 2 0) 3 0) 4 (-1)) (wr (wr (wr (wr (wr df 0 0 0) 0 1 0) 0 2 0) 0 3 0) 0 4 0) mo (upd (upd (upd (upd (upd (mo 0) 17 (-1)) 18 0) 20 0) 22 0) 26 0) := by
    refine ⟨by omega, hC, rfl, rfl, rfl, t2, rfl, rfl, ⟨0, 0, by omega, by omega, rfl, rfl, rfl, rfl, rfl, Or.inl ⟨rfl, rfl, rfl⟩, fun k hk => by omega, fun k hk => by omega⟩, fun _ _ _ => rfl, ?_⟩
    exact FrY_upd (FrY_upd (FrY_upd (FrY_upd (FrY_upd (fun _ _ => rfl) (by omega) _) (by omega) _) (by omega) _) (by omega) _) (by omega) _
  have hL := read_loop 240 0 0 1000 1000 rd _ _ mo _ (by omega) (by omega) (by omega) (by omega) hP
  have e1 : fX5_read rd df tx = fX5_read_29 tx 1000 (wa rd 0 (upd (upd (upd (upd (rd 0) 2 0) 3 0) 4 (-1)) 2 (nI (sk (mo 16) (n - 0) 0)))) (wr (wr (wr (wr (wr df 0 0 0) 0 1 0) 0 2 0) 0 3 0) 0 4 0) (nI 0) := by
    unfold fX5_read
    rw [eD, bd_e, lt_e, lt_e, lt_e, eR, c_skip hC rd (by omega) hP.2.2.1, bd_e]
    rfl
  have e2 : fX11_street mo = fX11_street_27 1000 (wa mo 0 (upd (upd (upd (upd (upd (mo 0) 17 (-1)) 18 0) 20 0) 22 0) 26 0)) 0 := by
    unfold fX11_street
    rw [lt_e, lt_e, lt_e, lt_e, lt_e, eM]
  rw [e1, e2]
  rcases hL with ⟨rd', z', df', M', y', a1, a2, a3⟩ | ⟨e, p, rd', z', df', M', y', a1, a2, a3, a4⟩
  · exact Or.inl ⟨n, rd', z', df', M', y', a1, a2, a3⟩
  · exact Or.inr ⟨n, e, p, rd', z', df', M', y', a1, a2, a3, a4⟩
