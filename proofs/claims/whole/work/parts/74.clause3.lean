/-! a clause -/
def DR (df M : Grp) (y : Row) : Prop := ∃ g f, g ≤ 4 ∧ f ≤ 5 ∧ df 0 3 = nI g ∧ y 22 = nI g ∧ df 0 4 = nI f ∧ y 26 = nI f ∧ df 0 0 = y 20 ∧ ((y 20 = 0 ∧ df 0 1 = 0 ∧ df 0 2 = 0) ∨ (y 20 = 1 ∧ df 0 1 = M 22 0 ∧ df 0 2 = M 22 1 ∧ inN (M 22 0) 10 ∧ inN (M 22 1) 10)) ∧
  (∀ k, k < g → df 6 k = M 24 k ∧ df 7 k = M 25 k ∧ df 8 k = M 26 k ∧ inN (M 24 k) 4 ∧ inN (M 25 k) 10 ∧ inN (M 26 k) 33 ∧ ¬ M 26 k = 0) ∧
  (∀ k, k < f → df 9 k = M 28 k ∧ df 10 k = M 29 k ∧ df 11 k = M 30 k ∧ df 12 k = M 31 k ∧ df 13 k = M 32 k ∧ inN (M 28 k) 4 ∧ inN (M 29 k) 10 ∧ inN (M 30 k) 10 ∧ inN (M 31 k) 256 ∧ inN (M 32 k) 1000)
/-- what holds between the clauses -/
def PR (tx mo0 : Grp) (n a : Nat) (z : Row) (df M : Grp) (y : Row) : Prop := a ≤ n ∧ Ct tx (M 16) n ∧ z 2 = nI a ∧ z 3 = 0 ∧ z 4 = -1 ∧ y 16 = nI n ∧ y 17 = -1 ∧ y 18 = nI a ∧ DR df M y ∧ FrM mo0 M ∧ FrY mo0 y
/-- both refuse alike, the draft with it -/
def Fdr (n : Nat) (mo0 : Grp) (oc : Option (Grp × Grp)) (om : Option (Int32 × Grp)) : Prop := ∃ (e : Int32) (p a' : Nat) (rd' : Grp) (z' : Row) (df' M' : Grp) (y' : Row), (e = 1 ∨ e = 2 ∨ e = 3) ∧ p ≤ n ∧ a' ≤ n ∧ oc = some (wa rd' 0 z', df') ∧ z' 2 = nI a' ∧ z' 3 = e ∧ z' 4 = nI p ∧ om = some (e, wa M' 0 y') ∧ y' 17 = nI p ∧ FrM mo0 M' ∧ FrY mo0 y'
theorem c_fail (rd : Grp) (z : Row) (e x : Int32) : fX5_fail (wa rd 0 z) e x = some (wa rd 0 (upd (upd z 3 e) 4 x)) := by
  unfold fX5_fail
  rw [lt_e, lt_e, wa_wr0, wa_wr0]
theorem m_fails (mo : Grp) (y : Row) (e x : Int32) : fX11_fails (wa mo 0 y) e x = some (e, wa mo 0 (upd y 17 x)) := by
  unfold fX11_fails
  rw [lt_e, wa_wr0]
/-- behind the numbers: refused -/
theorem tail_f {tx mo0 : Grp} {n : Nat} {w : Int32} {df : Grp} {oc : Option Grp} {om : Option (Int32 × Grp)} (hf : Fl n mo0 oc om) : Fdr n mo0 (d_bd oc fun q => fX5_readClause_90 tx q df w) (d_bd om fun q => fX11_takeClause_159 q.2 q.1) := by
  obtain ⟨e, p, a', rd', z', M', y', f1, f2, f3, f4, f5, f6, f7, f8, f9, f10, f11⟩ := hf
  refine ⟨e, p, a', rd', z', df, M', upd y' 18 (y' 18 + 1), f1, f2, f3, ?_, f5, f6, f7, ?_, by rw [upd_ne (by omega)]; exact f9, f10, FrY_upd f11 (by omega) _⟩
  · have hz : ¬ wa rd' 0 z' 0 3 = 0 := by rw [wa_row, f6]; exact (e12 f1).1
    rw [f4, bd_e, fX5_readClause_90, fX5_readEnd, if_neg hz, bd_e, if_neg hz]
  · rw [f8, bd_e]
    dsimp only
    rw [fX11_takeClause_159, if_neg (e12 f1).1, fX11_takeClause_185, lt_e, wa_row, wa_wr0]
/-- behind the numbers: the end of the clause -/
theorem tail_s {tx mo0 : Grp} {T : Row} {n a : Nat} {w : Int32} {df : Grp} (h : Ct tx T n) {rd M : Grp} {z y : Row} (hT : M 16 = T) (ha : a ≤ n) (hz : z 2 = nI a) (hz3 : z 3 = 0) (h16 : y 16 = nI n) (h18 : y 18 = nI a) (hM : FrM mo0 M) (hY : FrY mo0 y) :
    (∃ a', a < a' ∧ a' ≤ n ∧ fX5_readClause_90 tx (wa rd 0 z) df w = (d_bd (fX5_enter (wa rd 0 (upd z 2 (nI a'))) df w) fun q => some (wa rd 0 (upd z 2 (nI a')), q)) ∧ fX11_takeClause_159 (wa M 0 y) 0 = some (0, wa M 0 (upd y 18 (nI a')))) ∨
    Fdr n mo0 (fX5_readClause_90 tx (wa rd 0 z) df w) (fX11_takeClause_159 (wa M 0 y) 0) := by
  have h1 := h.1
  have hs := sk_le T (n - a) a
  unfold fX5_readClause_90 fX5_readEnd fX11_takeClause_159
  rw [wa_row, if_pos hz3, c_skip h rd ha hz, bd_e, wa_row, upd_at, c_letter h (by omega), bd_e, if_pos i00, m_here h1 M hT ha h16 h18, bd_e]
  dsimp only
  by_cases he : (if sk T (n - a) a < n then T (sk T (n - a) a) else -1) = 59
  · have hl : sk T (n - a) a < n := by
      by_cases hl : sk T (n - a) a < n
      · exact hl
      · rw [if_neg hl] at he; exact absurd he (by decide)
    left
    refine ⟨sk T (n - a) a + 1, by omega, by omega, ?_, ?_⟩
    · rw [if_pos he, lt_e, wa_wr0, upd_upd, ix1, bd_e, wa_row, upd_ne (show ¬ 3 = 2 by omega), if_pos hz3]
    · rw [if_pos he, fX11_takeClause_185, lt_e, wa_wr0, wa_row, upd_at, upd_upd, ix1]
  · right
    have hm : wa M 0 (upd y 18 (nI (sk T (n - a) a))) 0 18 = nI (sk T (n - a) a) := by rw [wa_row, upd_at]
    rw [if_neg he, if_neg he, c_fail, bd_e, bd_e, hm, m_fails, bd_e]
    refine ⟨1, sk T (n - a) a, sk T (n - a) a, rd, upd (upd (upd z 2 (nI (sk T (n - a) a))) 3 1) 4 (nI (sk T (n - a) a)), df, M, _, Or.inl rfl, by omega, by omega, ?_, ?_, ?_, ?_, rfl, ?_, hM, FrY_upd (FrY_upd hY (by omega) _) (by omega) _⟩
    · rw [wa_row, upd_ne (show ¬ 3 = 4 by omega), upd_at, if_neg i10]
    · rw [upd_ne (by omega), upd_ne (by omega), upd_at]
    · rw [upd_ne (by omega), upd_at]
    · rw [upd_at]
    · rw [upd_at]
theorem fw_e (df : Grp) : fX5_faultOfWord df 101 = some (if df 0 0 = 0 then 0 else 3) := by
  unfold fX5_faultOfWord fX5_faultOfWord_20 fX5_faultOfWord_82 fX5_faultOfWord_87
  by_cases h : df 0 0 = 0 <;> simp [h]
theorem fw_g (df : Grp) : fX5_faultOfWord df 103 = some (if df 0 0 = 0 then 1 else if df 0 3 < 4 then 0 else 3) := by
  unfold fX5_faultOfWord fX5_faultOfWord_20 fX5_faultOfWord_65 fX5_faultOfWord_82 fX5_faultOfWord_86 fX5_faultOfWord_87
  by_cases h : df 0 0 = 0 <;> by_cases h2 : df 0 3 < 4 <;> simp [h, h2]
theorem fw_f (df : Grp) : fX5_faultOfWord df 102 = some (if df 0 0 = 0 then 1 else if df 0 4 < 5 then 0 else 3) := by
  unfold fX5_faultOfWord fX5_faultOfWord_20 fX5_faultOfWord_65 fX5_faultOfWord_82 fX5_faultOfWord_86 fX5_faultOfWord_87
  by_cases h : df 0 0 = 0 <;> by_cases h2 : df 0 4 < 5 <;> simp [h, h2]
theorem mc_e (mo : Grp) : fX11_takeClause_36 mo 0 = fX11_takeClause_107 mo 0 (mo 0 20) := by
  unfold fX11_takeClause_36 fX11_takeClause_62
  rw [if_neg (show ¬ (0 : Int32) < 0 by decide), if_pos (show (0 : Int32) ≤ 0 by decide), if_pos i00]
theorem mc_g (mo : Grp) : fX11_takeClause_36 mo 1 = if mo 0 20 = 0 then fX11_takeClause_52 mo else if mo 0 22 = 4 then fX11_takeClause_107 mo 1 1 else fX11_takeClause_107 mo 1 0 := by
  unfold fX11_takeClause_36 fX11_takeClause_62
  rw [if_neg (show ¬ (1 : Int32) < 0 by decide), if_neg (show ¬ (1 : Int32) ≤ 0 by decide), if_neg i10, if_pos (rfl : (1 : Int32) = 1)]
theorem mc_f (mo : Grp) : fX11_takeClause_36 mo 2 = if mo 0 20 = 0 then fX11_takeClause_52 mo else if mo 0 26 = 5 then fX11_takeClause_107 mo 2 1 else fX11_takeClause_107 mo 2 0 := by
  unfold fX11_takeClause_36 fX11_takeClause_62
  rw [if_neg (show ¬ (2 : Int32) < 0 by decide), if_neg (show ¬ (2 : Int32) ≤ 0 by decide), if_neg (show ¬ (2 : Int32) = 0 by decide), if_neg (show ¬ (2 : Int32) = 1 by decide)]
theorem ab5 (k : Nat) (hk : k < 5) (b : Option Grp) : d_ab (nI k) 5 b = b := ab_e hk (by omega) b
theorem wr_0 {G' : Grp} {c i : Nat} (hc : ¬ c = 0) (v : Int32) : wr G' c i v 0 = G' 0 := wr_oth _ (fun e => hc e.symm)
theorem c_addEar (pl rd : Grp) : fX4_addEar pl rd = some (wr (wr (wr pl 0 0 1) 0 1 (rd 2 0)) 0 2 (rd 2 1)) := by
  unfold fX4_addEar
  rw [lt_e, show (0 : Int32) = nI 0 from rfl, ab5 0 (by omega), lt_e, show d_ab (1 : Int32) 5 = d_ab (nI 1) 5 from rfl, ab5 1 (by omega), lt_e]
  rfl
theorem c_addGate (pl rd : Grp) {g : Nat} (hg : g < 4) (e : pl 0 3 = nI g) : fX4_addGate pl rd = some (wr (wr (wr (wr pl 6 g (rd 2 0)) 7 g (rd 2 1)) 8 g (rd 2 2)) 0 3 (nI (g + 1))) := by
  unfold fX4_addGate
  rw [e, if_pos (show nI g < 4 from nI_lt (b := 4) (by omega) (by omega)), show d_ab (0 : Int32) 5 = d_ab (nI 0) 5 from rfl, ab5 0 (by omega), ab_e (by omega) (by omega), lt_e, show d_ab (1 : Int32) 5 = d_ab (nI 1) 5 from rfl, ab5 1 (by omega), wr_0 (by omega), e, ab_e (by omega) (by omega), lt_e, show d_ab (2 : Int32) 5 = d_ab (nI 2) 5 from rfl, ab5 2 (by omega), wr_0 (by omega), wr_0 (by omega), e, ab_e (by omega) (by omega), lt_e, lt_e, wr_0 (by omega), wr_0 (by omega), wr_0 (by omega), e, ix1, nI_clamp (by omega)]
  rfl
theorem c_addFob (pl rd : Grp) {g : Nat} (hg : g < 5) (e : pl 0 4 = nI g) : fX4_addFob pl rd = some (wr (wr (wr (wr (wr (wr pl 9 g (rd 2 0)) 10 g (rd 2 1)) 11 g (rd 2 2)) 12 g (rd 2 3)) 13 g (rd 2 4)) 0 4 (nI (g + 1))) := by
  unfold fX4_addFob
  rw [e, if_pos (show nI g < 5 from nI_lt (b := 5) (by omega) (by omega)), show d_ab (0 : Int32) 5 = d_ab (nI 0) 5 from rfl, ab5 0 (by omega), ab_e (by omega) (by omega), lt_e, show d_ab (1 : Int32) 5 = d_ab (nI 1) 5 from rfl, ab5 1 (by omega), wr_0 (by omega), e, ab_e (by omega) (by omega), lt_e, show d_ab (2 : Int32) 5 = d_ab (nI 2) 5 from rfl, ab5 2 (by omega), wr_0 (by omega), wr_0 (by omega), e, ab_e (by omega) (by omega), lt_e, show d_ab (3 : Int32) 5 = d_ab (nI 3) 5 from rfl, ab5 3 (by omega), wr_0 (by omega), wr_0 (by omega), wr_0 (by omega), e, ab_e (by omega) (by omega), lt_e, show d_ab (4 : Int32) 5 = d_ab (nI 4) 5 from rfl, ab5 4 (by omega), wr_0 (by omega), wr_0 (by omega), wr_0 (by omega), wr_0 (by omega), e, ab_e (by omega) (by omega), lt_e, lt_e, wr_0 (by omega), wr_0 (by omega), wr_0 (by omega), wr_0 (by omega), wr_0 (by omega), e, ix1, nI_clamp (by omega)]
  rfl
theorem inN_of {v m : Nat} (h : v < m) : inN (nI v) m := ⟨v, h, rfl⟩
theorem clause2 {tx mo0 : Grp} {n a : Nat} {rd df M : Grp} {z y : Row} (h : PR tx mo0 n a z df M y) (hl : a < n) (hb : ¬ M 16 a = 32) :
    (∃ (a' : Nat) (rd' : Grp) (z' : Row) (df' M' : Grp) (y' : Row), a < a' ∧ fX5_readClause (wa rd 0 z) df tx = some (wa rd' 0 z', df') ∧ fX11_takeClause (wa M 0 y) = some (0, wa M' 0 y') ∧ PR tx mo0 n a' z' df' M' y') ∨
    Fdr n mo0 (fX5_readClause (wa rd 0 z) df tx) (fX11_takeClause (wa M 0 y)) := by
  obtain ⟨ha, hC, hz, hz3, hz4, h16, h17, h18, hD, hM, hY⟩ := h
  have h1 := hC.1
  have hD' := hD
  obtain ⟨g, f, dg, df5, d3, d22, d4, d26, d0, dE, dG, dF⟩ := hD
  have hh := m_here (T := M 16) h1 M rfl ha h16 h18
  rw [sk_id hb, if_pos hl, upd_id h18] at hh
  unfold fX5_readClause fX11_takeClause
  rw [wa_row, hz, c_letter hC ha, bd_e, if_pos hl, hh, bd_e]
  dsimp only
  -- a refusal at the word
  have no : ∀ e : Int32, (e = 1 ∨ e = 2 ∨ e = 3) → Fdr n mo0 (d_bd (fX5_fail (wa rd 0 z) e (nI a)) fun q13 => some (q13, df)) (some (e, wa M 0 (upd y 17 (nI a)))) := by
    intro e he
    refine ⟨e, a, a, rd, upd (upd z 3 e) 4 (nI a), df, M, _, he, by omega, by omega, by rw [c_fail, bd_e], ?_, ?_, ?_, rfl, ?_, hM, FrY_upd hY (by omega) _⟩
    · rw [upd_ne (by omega), upd_ne (by omega)]; exact hz
    · rw [upd_ne (by omega), upd_at]
    · rw [upd_at]
    · rw [upd_at]
  have m52 : fX11_takeClause_52 (wa M 0 y) = some (1, wa M 0 (upd y 17 (nI a))) := by
    unfold fX11_takeClause_52
    rw [wa_row, h18, m_fails, bd_e]
  have m107 : ∀ x : Int32, fX11_takeClause_107 (wa M 0 y) x 1 = some (3, wa M 0 (upd y 17 (nI a))) := by
    intro x
    unfold fX11_takeClause_107
    rw [if_neg i10, wa_row, h18, m_fails, bd_e]
  by_cases w1 : M 16 a = 101
  · -- the ear
    rw [if_pos w1, w1, mc_e, show wa M 0 y 0 20 = y 20 from rfl]
    rcases dE with ⟨y0, d1, d2⟩ | ⟨y1, _⟩
    · rw [show fX5_faultOfWord df 101 = some 0 from by rw [fw_e, d0, if_pos y0], bd_e, if_pos i00, lt_e, if_pos (rfl : (101 : Int32) = 101), wa_wr0, ix1, y0]
      unfold fX11_takeClause_107
      rw [if_pos i00, lt_e, if_pos i00, wa_row, h18, ix1, wa_wr0]
      rcases ear2 (mo0 := mo0) (a := a + 1) hC rd M rfl (by omega) (z := upd z 2 (nI (a + 1))) (y := upd y 18 (nI (a + 1))) (by rw [upd_at]) (by rw [upd_ne (by omega)]; exact hz3) (by rw [upd_ne (by omega)]; exact h16) (by rw [upd_at]) hM (FrY_upd hY (by omega) _) with ⟨a1, v0, v1, y1, p1, p2, p3, p4, p5, p6, p7, p8, p9⟩ | hf
      · rw [p5, bd_e, p6, bd_e]
        dsimp only
        have hY1 : FrY mo0 y1 := fun i hi => by rw [p9 i (by omega) (by omega) (by omega), upd_ne (by omega)]; exact hY i hi
        rcases tail_s (mo0 := mo0) (w := 101) (df := df) (T := M 16) hC (rd := wr (wr rd 2 0 (nI v0)) 2 1 (nI v1)) (M := wr (wr M 22 0 (nI v0)) 22 1 (nI v1)) (z := upd (upd z 2 (nI (a + 1))) 2 (nI a1)) (y := y1) (hT_wr (hT_wr rfl (by omega) _ _) (by omega) _ _) p2 (by rw [upd_at]) (by rw [upd_ne (by omega), upd_ne (by omega)]; exact hz3) (by rw [p9 16 (by omega) (by omega) (by omega), upd_ne (by omega)]; exact h16) p7 (FrM_wr (FrM_wr hM (by omega) _ _) (by omega) _ _) hY1 with ⟨a2, q1, q2, q3, q4⟩ | hf
        · left
          rw [q3, q4]
          unfold fX5_enter
          rw [if_pos (rfl : (101 : Int32) = 101), c_addEar, bd_e, bd_e]
          refine ⟨a2, _, _, _, _, _, by omega, rfl, rfl, q2, ?_, ?_, ?_, ?_, ?_, ?_, ?_, ?_, FrM_wr (FrM_wr hM (by omega) _ _) (by omega) _ _, FrY_upd hY1 (by omega) _⟩
          · rw [hT_wr (hT_wr rfl (by omega) _ _) (by omega) _ _]; exact hC
          · rw [upd_at]
          · rw [upd_ne (by omega), upd_ne (by omega), upd_ne (by omega)]; exact hz3
          · rw [upd_ne (by omega), upd_ne (by omega), upd_ne (by omega)]; exact hz4
          · rw [upd_ne (by omega), p9 16 (by omega) (by omega) (by omega), upd_ne (by omega)]; exact h16
          · rw [upd_ne (by omega), p9 17 (by omega) (by omega) (by omega), upd_ne (by omega)]; exact h17
          · rw [upd_at]
          · refine ⟨g, f, dg, df5, ?_, ?_, ?_, ?_, ?_, Or.inr ⟨?_, ?_, ?_, ?_, ?_⟩, dG, dF⟩
            · exact d3
            · rw [upd_ne (by omega), p9 22 (by omega) (by omega) (by omega), upd_ne (by omega)]; exact d22
            · exact d4
            · rw [upd_ne (by omega), p9 26 (by omega) (by omega) (by omega), upd_ne (by omega)]; exact d26
            · rw [upd_ne (by omega), p8]; rfl
            · rw [upd_ne (by omega)]; exact p8
            · rfl
            · rfl
            · exact inN_of p3
            · exact inN_of p4
        · exact Or.inr hf
      · exact Or.inr (tail_f hf)
    · right
      have y0 : ¬ y 20 = 0 := by rw [y1]; decide
      rw [show fX5_faultOfWord df 101 = some 3 from by rw [fw_e, d0, if_neg y0], bd_e, if_neg (show ¬ (3 : Int32) = 0 by decide), y1, m107]
      exact no 3 (by decide)
  rw [if_neg w1]
  by_cases w2 : M 16 a = 103
  · -- a gate
    have n1 : ¬ (103 : Int32) = 101 := by decide
    have n2 : ¬ (103 : Int32) = 102 := by decide
    rw [if_pos w2, w2, mc_g, show wa M 0 y 0 20 = y 20 from rfl, show wa M 0 y 0 22 = nI g from d22, m52, m107]
    rcases dE with ⟨y0, d1, d2⟩ | ⟨y1, dE1⟩
    · rw [show fX5_faultOfWord df 103 = some 1 from by rw [fw_g, d0, if_pos y0], if_pos y0, bd_e, if_neg i10]
      exact Or.inr (no 1 (by decide))
    · have y0 : ¬ y 20 = 0 := by rw [y1]; decide
      rw [if_neg y0]
      by_cases hg : g = 4
      · rw [show fX5_faultOfWord df 103 = some 3 from by rw [fw_g, d0, if_neg y0, d3, if_neg (show ¬ nI g < 4 from nI_nlt (b := 4) (by omega) (by omega))], bd_e, if_neg (show ¬ (3 : Int32) = 0 by decide), if_pos (show nI g = 4 by rw [hg]; rfl)]
        exact Or.inr (no 3 (by decide))
      · rw [show fX5_faultOfWord df 103 = some 0 from by rw [fw_g, d0, if_neg y0, d3, if_pos (show nI g < 4 from nI_lt (b := 4) (by omega) (by omega))], bd_e, if_pos i00, lt_e, if_neg n1, if_pos (rfl : (103 : Int32) = 103), wa_wr0, ix1, if_neg (show ¬ nI g = 4 from fun e => hg ((nI_inj (b := 4) (by omega) (by omega)).mp e))]
        unfold fX11_takeClause_107
        rw [if_pos i00, lt_e, if_neg i10, if_pos (rfl : (1 : Int32) = 1), wa_row, h18, ix1, wa_wr0]
        rcases gate2 (mo0 := mo0) (a := a + 1) (g := g) (by omega) hC rd M rfl (by omega) (z := upd z 2 (nI (a + 1))) (y := upd y 18 (nI (a + 1))) (by rw [upd_at]) (by rw [upd_ne (by omega)]; exact hz3) (by rw [upd_ne (by omega)]; exact h16) (by rw [upd_at]) (by rw [upd_ne (by omega)]; exact d22) hM (FrY_upd hY (by omega) _) with ⟨a1, v0, v1, v2, y1', p1, p2, p3, p5, p6, p7, p8, p9⟩ | hf
        · rw [p5, bd_e, p6, bd_e]
          dsimp only
          have hY1 : FrY mo0 y1' := fun i hi => by rw [p9 i (by omega) (by omega) (by omega), upd_ne (by omega)]; exact hY i hi
          rcases tail_s (mo0 := mo0) (w := 103) (df := df) (T := M 16) hC (rd := wr (wr (wr rd 2 0 (nI v0)) 2 1 (nI v1)) 2 2 (nI v2)) (M := wr (wr (wr M 24 g (nI v0)) 25 g (nI v1)) 26 g (nI v2)) (z := upd (upd z 2 (nI (a + 1))) 2 (nI a1)) (y := y1') (hT_wr (hT_wr (hT_wr rfl (by omega) _ _) (by omega) _ _) (by omega) _ _) p2 (by rw [upd_at]) (by rw [upd_ne (by omega), upd_ne (by omega)]; exact hz3) (by rw [p9 16 (by omega) (by omega) (by omega), upd_ne (by omega)]; exact h16) p7 (FrM_wr (FrM_wr (FrM_wr hM (by omega) _ _) (by omega) _ _) (by omega) _ _) hY1 with ⟨a2, q1, q2, q3, q4⟩ | hf
          · left
            rw [q3, q4]
            unfold fX5_enter
            rw [if_neg n1, if_pos (rfl : (103 : Int32) = 103), c_addGate _ _ (show g < 4 by omega) d3, bd_e, bd_e]
            refine ⟨a2, _, _, _, _, _, by omega, rfl, rfl, q2, ?_, ?_, ?_, ?_, ?_, ?_, ?_, ?_, FrM_wr (FrM_wr (FrM_wr hM (by omega) _ _) (by omega) _ _) (by omega) _ _, FrY_upd hY1 (by omega) _⟩
            · rw [hT_wr (hT_wr (hT_wr rfl (by omega) _ _) (by omega) _ _) (by omega) _ _]; exact hC
            · rw [upd_at]
            · rw [upd_ne (by omega), upd_ne (by omega), upd_ne (by omega)]; exact hz3
            · rw [upd_ne (by omega), upd_ne (by omega), upd_ne (by omega)]; exact hz4
            · rw [upd_ne (by omega), p9 16 (by omega) (by omega) (by omega), upd_ne (by omega)]; exact h16
            · rw [upd_ne (by omega), p9 17 (by omega) (by omega) (by omega), upd_ne (by omega)]; exact h17
            · rw [upd_at]
            · refine ⟨g + 1, f, by omega, df5, ?_, ?_, ?_, ?_, ?_, Or.inr ⟨?_, dE1⟩, ?_, dF⟩
              · rfl
              · rw [upd_ne (by omega)]; exact p8
              · exact d4
              · rw [upd_ne (by omega), p9 26 (by omega) (by omega) (by omega), upd_ne (by omega)]; exact d26
              · rw [upd_ne (by omega), p9 20 (by omega) (by omega) (by omega), upd_ne (by omega)]; exact d0
              · rw [upd_ne (by omega), p9 20 (by omega) (by omega) (by omega), upd_ne (by omega)]; exact y1
              · intro k hk
                show upd (df 6) g (nI v0) k = upd (M 24) g (nI v0) k ∧ upd (df 7) g (nI v1) k = upd (M 25) g (nI v1) k ∧ upd (df 8) g (nI v2) k = upd (M 26) g (nI v2) k ∧ inN (upd (M 24) g (nI v0) k) 4 ∧ inN (upd (M 25) g (nI v1) k) 10 ∧ inN (upd (M 26) g (nI v2) k) 33 ∧ ¬ upd (M 26) g (nI v2) k = 0
                by_cases e : k = g
                · subst e
                  simp only [upd_at]
                  refine ⟨trivial, trivial, trivial, inN_of (by omega), inN_of (by omega), inN_of (by omega), fun e => ?_⟩
                  have := (nI_inj (a := v2) (b := 0) (by omega) (by omega)).mp e
                  omega
                · simp only [upd_ne e]
                  exact dG k (by omega)
          · exact Or.inr hf
        · exact Or.inr (tail_f hf)
  rw [if_neg w2]
  by_cases w3 : M 16 a = 102
  · -- a fob
    have n1 : ¬ (102 : Int32) = 101 := by decide
    have n2 : ¬ (102 : Int32) = 103 := by decide
    rw [if_pos w3, w3, mc_f, show wa M 0 y 0 20 = y 20 from rfl, show wa M 0 y 0 26 = nI f from d26, m52, m107]
    rcases dE with ⟨y0, d1, d2⟩ | ⟨y1, dE1⟩
    · rw [show fX5_faultOfWord df 102 = some 1 from by rw [fw_f, d0, if_pos y0], if_pos y0, bd_e, if_neg i10]
      exact Or.inr (no 1 (by decide))
    · have y0 : ¬ y 20 = 0 := by rw [y1]; decide
      rw [if_neg y0]
      by_cases hg : f = 5
      · rw [show fX5_faultOfWord df 102 = some 3 from by rw [fw_f, d0, if_neg y0, d4, if_neg (show ¬ nI f < 5 from nI_nlt (b := 5) (by omega) (by omega))], bd_e, if_neg (show ¬ (3 : Int32) = 0 by decide), if_pos (show nI f = 5 by rw [hg]; rfl)]
        exact Or.inr (no 3 (by decide))
      · rw [show fX5_faultOfWord df 102 = some 0 from by rw [fw_f, d0, if_neg y0, d4, if_pos (show nI f < 5 from nI_lt (b := 5) (by omega) (by omega))], bd_e, if_pos i00, lt_e, if_neg n1, if_neg n2, wa_wr0, ix1, if_neg (show ¬ nI f = 5 from fun e => hg ((nI_inj (b := 5) (by omega) (by omega)).mp e))]
        unfold fX11_takeClause_107
        rw [if_pos i00, lt_e, if_neg (show ¬ (2 : Int32) = 0 by decide), if_neg (show ¬ (2 : Int32) = 1 by decide), wa_row, h18, ix1, wa_wr0]
        rcases fob2 (mo0 := mo0) (a := a + 1) (g := f) (by omega) hC rd M rfl (by omega) (z := upd z 2 (nI (a + 1))) (y := upd y 18 (nI (a + 1))) (by rw [upd_at]) (by rw [upd_ne (by omega)]; exact hz3) (by rw [upd_ne (by omega)]; exact h16) (by rw [upd_at]) (by rw [upd_ne (by omega)]; exact d26) hM (FrY_upd hY (by omega) _) with ⟨a1, v0, v1, v2, v3, v4, y1', p1, p2, p3, p5, p6, p7, p8, p9⟩ | hf
        · rw [p5, bd_e, p6, bd_e]
          dsimp only
          have hY1 : FrY mo0 y1' := fun i hi => by rw [p9 i (by omega) (by omega) (by omega), upd_ne (by omega)]; exact hY i hi
          rcases tail_s (mo0 := mo0) (w := 102) (df := df) (T := M 16) hC (rd := wr (wr (wr (wr (wr rd 2 0 (nI v0)) 2 1 (nI v1)) 2 2 (nI v2)) 2 3 (nI v3)) 2 4 (nI v4)) (M := wr (wr (wr (wr (wr M 28 f (nI v0)) 29 f (nI v1)) 30 f (nI v2)) 31 f (nI v3)) 32 f (nI v4)) (z := upd (upd z 2 (nI (a + 1))) 2 (nI a1)) (y := y1') (hT_wr (hT_wr (hT_wr (hT_wr (hT_wr rfl (by omega) _ _) (by omega) _ _) (by omega) _ _) (by omega) _ _) (by omega) _ _) p2 (by rw [upd_at]) (by rw [upd_ne (by omega), upd_ne (by omega)]; exact hz3) (by rw [p9 16 (by omega) (by omega) (by omega), upd_ne (by omega)]; exact h16) p7 (FrM_wr (FrM_wr (FrM_wr (FrM_wr (FrM_wr hM (by omega) _ _) (by omega) _ _) (by omega) _ _) (by omega) _ _) (by omega) _ _) hY1 with ⟨a2, q1, q2, q3, q4⟩ | hf
          · left
            rw [q3, q4]
            unfold fX5_enter
            rw [if_neg n1, if_neg n2, c_addFob _ _ (show f < 5 by omega) d4, bd_e, bd_e]
            refine ⟨a2, _, _, _, _, _, by omega, rfl, rfl, q2, ?_, ?_, ?_, ?_, ?_, ?_, ?_, ?_, FrM_wr (FrM_wr (FrM_wr (FrM_wr (FrM_wr hM (by omega) _ _) (by omega) _ _) (by omega) _ _) (by omega) _ _) (by omega) _ _, FrY_upd hY1 (by omega) _⟩
            · rw [hT_wr (hT_wr (hT_wr (hT_wr (hT_wr rfl (by omega) _ _) (by omega) _ _) (by omega) _ _) (by omega) _ _) (by omega) _ _]; exact hC
            · rw [upd_at]
            · rw [upd_ne (by omega), upd_ne (by omega), upd_ne (by omega)]; exact hz3
            · rw [upd_ne (by omega), upd_ne (by omega), upd_ne (by omega)]; exact hz4
            · rw [upd_ne (by omega), p9 16 (by omega) (by omega) (by omega), upd_ne (by omega)]; exact h16
            · rw [upd_ne (by omega), p9 17 (by omega) (by omega) (by omega), upd_ne (by omega)]; exact h17
            · rw [upd_at]
            · refine ⟨g, f + 1, dg, by omega, ?_, ?_, ?_, ?_, ?_, Or.inr ⟨?_, dE1⟩, dG, ?_⟩
              · exact d3
              · rw [upd_ne (by omega), p9 22 (by omega) (by omega) (by omega), upd_ne (by omega)]; exact d22
              · rfl
              · rw [upd_ne (by omega)]; exact p8
              · rw [upd_ne (by omega), p9 20 (by omega) (by omega) (by omega), upd_ne (by omega)]; exact d0
              · rw [upd_ne (by omega), p9 20 (by omega) (by omega) (by omega), upd_ne (by omega)]; exact y1
              · intro k hk
                show upd (df 9) f (nI v0) k = upd (M 28) f (nI v0) k ∧ upd (df 10) f (nI v1) k = upd (M 29) f (nI v1) k ∧ upd (df 11) f (nI v2) k = upd (M 30) f (nI v2) k ∧ upd (df 12) f (nI v3) k = upd (M 31) f (nI v3) k ∧ upd (df 13) f (nI v4) k = upd (M 32) f (nI v4) k ∧ inN (upd (M 28) f (nI v0) k) 4 ∧ inN (upd (M 29) f (nI v1) k) 10 ∧ inN (upd (M 30) f (nI v2) k) 10 ∧ inN (upd (M 31) f (nI v3) k) 256 ∧ inN (upd (M 32) f (nI v4) k) 1000
                by_cases e : k = f
                · subst e
                  simp only [upd_at]
                  exact ⟨trivial, trivial, trivial, trivial, trivial, inN_of (by omega), inN_of (by omega), inN_of (by omega), inN_of (by omega), inN_of (by omega)⟩
                · simp only [upd_ne e]
                  exact dF k (by omega)
          · exact Or.inr hf
        · exact Or.inr (tail_f hf)
  rw [if_neg w3]
  rw [show fX5_faultOfWord df (M 16 a) = some 1 from by rw [fX5_faultOfWord, if_neg w1, if_neg w2, if_neg w3], bd_e, if_neg i10, show fX11_takeClause_36 (wa M 0 y) (-1) = fX11_takeClause_52 (wa M 0 y) from by rw [fX11_takeClause_36, if_pos (show (-1 : Int32) < 0 by decide)], m52]
  exact Or.inr (no 1 (by decide))
