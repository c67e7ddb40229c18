/-! the numbers of a clause -/
theorem wr_wa0 (g : Grp) (z : Row) {c : Nat} (hc : ¬ c = 0) (i : Nat) (v : Int32) : wr (wa g 0 z) c i v = wa (wr g c i v) 0 z := by
  funext j
  by_cases h0 : j = 0
  · subst h0
    rw [wr_oth _ (fun e => hc e.symm), wa_row, wa_row]
  · rw [wa_oth _ h0]
    by_cases hj : j = c
    · subst hj
      rw [wr_row, wr_row, wa_oth _ h0]
    · rw [wr_oth _ hj, wr_oth _ hj, wa_oth _ h0]
def FrM (mo M : Grp) : Prop := ∀ j, ¬ j = 0 → ¬ (22 ≤ j ∧ j ≤ 32) → M j = mo j
def FrY (mo : Grp) (y : Row) : Prop := ∀ i, ¬ (17 ≤ i ∧ i ≤ 26) → y i = mo 0 i
theorem FrM_wr {mo M : Grp} (h : FrM mo M) {c : Nat} (hc : 22 ≤ c ∧ c ≤ 32) (x : Nat) (v : Int32) : FrM mo (wr M c x v) := fun j h0 h1 => by rw [wr_oth _ (fun e => h1 (by omega))]; exact h j h0 h1
theorem FrY_upd {mo : Grp} {y : Row} (h : FrY mo y) {i : Nat} (hi : 17 ≤ i ∧ i ≤ 26) (v : Int32) : FrY mo (upd y i v) := fun j h1 => by rw [upd_ne (fun e => h1 (by omega))]; exact h j h1
theorem rn_stop (tx : Grp) (a2 a3 fu : Nat) (rd : Grp) (x : Int32) (h : ¬ rd 0 3 = 0) : fX5_readNumbers_3 tx a2 a3 (fu + 1) rd x = some rd := by
  rw [fX5_readNumbers_3, if_neg h]
  split
  · split
    · split <;> rfl
    · rfl
  · rfl
theorem e12 {e : Int32} (h : e = 1 ∨ e = 2 ∨ e = 3) : ¬ e = 0 ∧ ¬ e ≤ 0 := by rcases h with rfl | rfl | rfl <;> exact ⟨by decide, by decide⟩
/-- both refuse alike -/
def Fl (n : Nat) (mo0 : Grp) (oc : Option Grp) (om : Option (Int32 × Grp)) : Prop := ∃ (e : Int32) (p a' : Nat) (rd' : Grp) (z' : Row) (M' : Grp) (y' : Row), (e = 1 ∨ e = 2 ∨ e = 3) ∧ p ≤ n ∧ a' ≤ n ∧ oc = some (wa rd' 0 z') ∧ z' 2 = nI a' ∧ z' 3 = e ∧ z' 4 = nI p ∧ om = some (e, wa M' 0 y') ∧ y' 17 = nI p ∧ FrM mo0 M' ∧ FrY mo0 y'
theorem into2 {tx mo0 : Grp} {T : Row} {n a l u i a2 a3 c n1 x fu : Nat} (h : Ct tx T n) (rd mo : Grp) (hT : mo 16 = T) (ha : a ≤ n) (hi : i < 5) (h2 : i < sn_len a2) (h3 : i < sn_len a3) (e2 : sn_at a2 i = nI l) (e3 : sn_at a3 i = nI u) (hl : l < 1000) (hu : u < 1000) (hc : 22 ≤ c + 1 ∧ c + 1 ≤ 32) (hx : x < n1) (hn1 : n1 ≤ 5) {z y : Row} (hz : z 2 = nI a) (hz3 : z 3 = 0) (h16 : y 16 = nI n) (h18 : y 18 = nI a) (hfu : 1 ≤ fu) (hM : FrM mo0 mo) (hY : FrY mo0 y) :
    (∃ a' v, a ≤ a' ∧ a' ≤ n ∧ l ≤ v ∧ v ≤ u ∧ fX5_readNumbers_3 tx a2 a3 (fu + 1) (wa rd 0 z) (nI i) = fX5_readNumbers_3 tx a2 a3 fu (wa (wr rd 2 i (nI v)) 0 (upd z 2 (nI a'))) (nI (i + 1)) ∧ fX11_into (wa mo 0 y) c n1 (nI x) (nI l) (nI u) = some (0, wa (wr mo (c + 1) x (nI v)) 0 (upd (upd y 18 (nI a')) 19 (nI v)))) ∨
    Fl n mo0 (fX5_readNumbers_3 tx a2 a3 (fu + 1) (wa rd 0 z) (nI i)) (fX11_into (wa mo 0 y) c n1 (nI x) (nI l) (nI u)) := by
  have hs2 : sn_len a2 ≤ 5 := by unfold sn_len; split <;> omega
  have hs3 : sn_len a3 ≤ 5 := by unfold sn_len; split <;> omega
  have step : fX5_readNumbers_3 tx a2 a3 (fu + 1) (wa rd 0 z) (nI i) = d_bd (fX5_readNumber (wa rd 0 z) tx (nI l) (nI u)) fun q7 => fX5_readNumbers_3 tx a2 a3 fu (wr q7.2 2 i q7.1) (nI (i + 1)) := by
    rw [fX5_readNumbers_3, if_pos (show nI i < 5 from nI_lt (b := 5) (by omega) (by omega)), if_pos (show nI i < Int32.ofNat (sn_len a2) from nI_lt (by omega) (by omega)), if_pos (show nI i < Int32.ofNat (sn_len a3) from nI_lt (by omega) (by omega)), wa_row, if_pos hz3, ab_e (by omega) (by omega), ab_e (by omega) (by omega), nI_clamp (by omega), e2, e3]
    simp (disch := omega) only [ab_e, lt_e, ix1]
  have stepm : fX11_into (wa mo 0 y) c n1 (nI x) (nI l) (nI u) = d_bd (fX11_takeNumber (wa mo 0 y) (nI l) (nI u)) fun q1 => some (q1.1, wr q1.2 (c + 1) x (q1.2 0 19)) := by
    unfold fX11_into
    simp (disch := omega) only [ab_e, lt_e, nI_clamp]
  obtain ⟨a', b1, b2, hh⟩ := num2 (l := l) (u := u) h rd mo hT ha hl hu hz h16 h18
  rw [step, stepm]
  rcases hh with ⟨v, v1, v2, v3, v4⟩ | ⟨e, v, p, y', v1, v2, v3, v4, v5, v6⟩
  · left
    refine ⟨a', v, b1, b2, v1, v2, ?_, ?_⟩
    · rw [v3, bd_e, wr_wa0 _ _ (by omega)]
    · rw [v4, bd_e]
      dsimp only
      rw [wa_row, upd_at, wr_wa0 _ _ (by omega)]
  · right
    have he : e = 1 ∨ e = 2 ∨ e = 3 := by rcases v1 with h | h; exact Or.inl h; exact Or.inr (Or.inl h)
    obtain ⟨fu, rfl⟩ : ∃ z, fu = z + 1 := ⟨fu - 1, by omega⟩
    refine ⟨e, p, a', wr rd 2 i v, upd (upd (upd z 2 (nI a')) 3 e) 4 (nI p), wr mo (c + 1) x (y' 19), y', he, v2, b2, ?_, ?_, ?_, ?_, ?_, v5, FrM_wr hM hc _ _, ?_⟩
    · rw [v3, bd_e]
      dsimp only
      rw [wr_wa0 _ _ (by omega)]
      exact rn_stop _ _ _ _ _ _ (by
        rw [wa_row, upd_ne (by omega), upd_at]
        exact (e12 he).1)
    · rw [upd_ne (by omega), upd_ne (by omega), upd_at]
    · rw [upd_ne (by omega), upd_at]
    · rw [upd_at]
    · rw [v4, bd_e]
      dsimp only
      rw [wa_row, wr_wa0 _ _ (by omega)]
    · intro i h1
      rw [v6 i (by omega) (by omega) (by omega)]
      exact hY i h1
theorem rn_end {tx : Grp} {a2 a3 fu i : Nat} (h : sn_len a2 ≤ i) (hi : i ≤ 5) (hfu : 1 ≤ fu) (rd : Grp) : fX5_readNumbers_3 tx a2 a3 fu rd (nI i) = some rd := by
  obtain ⟨fu, rfl⟩ : ∃ z, fu = z + 1 := ⟨fu - 1, by omega⟩
  have hs2 : sn_len a2 ≤ 5 := by unfold sn_len; split <;> omega
  rw [fX5_readNumbers_3, if_neg (show ¬ nI i < Int32.ofNat (sn_len a2) from nI_nlt (by omega) (by omega))]
  split <;> rfl
theorem hT_wr {M : Grp} {T : Row} (h : M 16 = T) {c : Nat} (hc : 22 ≤ c) (x : Nat) (v : Int32) : wr M c x v 16 = T := by rw [wr_oth _ (by omega)]; exact h
theorem ite0 {α : Type} (a b : α) : (if (0 : Int32) ≤ 0 then a else b) = a := if_pos (by decide)
theorem iteE {α : Type} {e : Int32} (h : e = 1 ∨ e = 2 ∨ e = 3) (a b : α) : (if e ≤ 0 then a else b) = b := if_neg (e12 h).2
theorem bd_id {α β : Type} (o : Option (α × β)) : (d_bd o fun q => some (q.1, q.2)) = o := by cases o <;> rfl
/-- the ear's two numbers -/
theorem ear2 {tx mo0 : Grp} {T : Row} {n a : Nat} (h : Ct tx T n) (rd mo : Grp) (hT : mo 16 = T) (ha : a ≤ n) {z y : Row} (hz : z 2 = nI a) (hz3 : z 3 = 0) (h16 : y 16 = nI n) (h18 : y 18 = nI a) (hM : FrM mo0 mo) (hY : FrY mo0 y) :
    (∃ (a' v0 v1 : Nat) (y' : Row), a ≤ a' ∧ a' ≤ n ∧ v0 < 10 ∧ v1 < 10 ∧ fX5_readNumbers (wa rd 0 z) tx 1 0 = some (wa (wr (wr rd 2 0 (nI v0)) 2 1 (nI v1)) 0 (upd z 2 (nI a'))) ∧ fX11_takeEar (wa mo 0 y) = some (0, wa (wr (wr mo 22 0 (nI v0)) 22 1 (nI v1)) 0 y') ∧ y' 18 = nI a' ∧ y' 20 = 1 ∧ ∀ i, ¬ i = 18 → ¬ i = 19 → ¬ i = 20 → y' i = y i) ∨
    Fl n mo0 (fX5_readNumbers (wa rd 0 z) tx 1 0) (fX11_takeEar (wa mo 0 y)) := by
  unfold fX5_readNumbers fX11_takeEar
  rw [lt_e, wa_wr0]
  rcases into2 (a2 := 1) (a3 := 0) (i := 0) (c := 21) (n1 := 2) (x := 0) (l := 0) (u := 9) (fu := 999) (mo0 := mo0) h rd mo hT ha (by omega) (by decide) (by decide) rfl rfl (by omega) (by omega) (by omega) (by omega) (by omega) hz hz3 (y := upd y 20 1) (by rw [upd_ne (by omega)]; exact h16) (by rw [upd_ne (by omega)]; exact h18) (by omega) hM (FrY_upd hY (by omega) _) with ⟨a1, v0, p1, p2, p3, p4, p5, p6⟩ | hf
  · rw [show (0 : Int32) = nI 0 from rfl, p5, show nI 0 = (0 : Int32) from rfl]
    rw [show fX11_into (wa mo 0 (upd y 20 1)) 21 2 0 0 9 = _ from p6, bd_e]
    dsimp only
    rw [ite0]
    rcases into2 (a2 := 1) (a3 := 0) (i := 0 + 1) (c := 21) (n1 := 2) (x := 1) (l := 0) (u := 9) (fu := 998) (a := a1) (mo0 := mo0) h (wr rd 2 0 (nI v0)) (wr mo 22 0 (nI v0)) (hT_wr hT (by omega) _ _) p2 (by omega) (by decide) (by decide) rfl rfl (by omega) (by omega) (by omega) (by omega) (by omega) (z := upd z 2 (nI a1)) (y := upd (upd (upd y 20 1) 18 (nI a1)) 19 (nI v0)) (by rw [upd_at]) (by rw [upd_ne (by omega)]; exact hz3) (by rw [upd_ne (by omega), upd_ne (by omega), upd_ne (by omega)]; exact h16) (by rw [upd_ne (by omega), upd_at]) (by omega) (FrM_wr hM (by omega) _ _) (FrY_upd (FrY_upd (FrY_upd hY (by omega) _) (by omega) _) (by omega) _) with ⟨a2, v1, q1, q2, q3, q4, q5, q6⟩ | hf
    · left
      refine ⟨a2, v0, v1, upd (upd (upd (upd (upd y 20 1) 18 (nI a1)) 19 (nI v0)) 18 (nI a2)) 19 (nI v1), by omega, q2, by omega, by omega, ?_, ?_, ?_, ?_, ?_⟩
      · rw [q5, rn_end (by decide) (by omega) (by omega), upd_upd]
      · rw [bd_id]; exact q6
      · rw [upd_ne (by omega), upd_at]
      · rw [upd_ne (by omega), upd_ne (by omega), upd_ne (by omega), upd_ne (by omega), upd_at]
      · intro i h1 h2 h3
        rw [upd_ne h2, upd_ne h1, upd_ne h2, upd_ne h1, upd_ne h3]
    · right
      rw [bd_id]
      exact hf
  · right
    obtain ⟨e, p, a', rd', z', M', y', f1, f2, f3, f4, f5, f6, f7, f8, f9, f10, f11⟩ := hf
    refine ⟨e, p, a', rd', z', M', y', f1, f2, f3, f4, f5, f6, f7, ?_, f9, f10, f11⟩
    rw [show fX11_into (wa mo 0 (upd y 20 1)) 21 2 0 0 9 = _ from f8, bd_e]
    dsimp only
    rw [iteE f1]
