theorem openings2 {G Fb : Nat} {σ : Mem} (h : INV G Fb σ) : ∀ (n g fu : Nat) (s : Int32), g + n = G → n + 1 ≤ fu → ∃ r, fX7_allOpenings_4 (σ 7 0) (σ 4 0) fu s (nI g) = some r ∧ fX11_openings_4 (σ 11 0) fu s (nI g) = some r := by
  have hG := h.1.1.2.2.1
  intro n
  induction n with
  | zero =>
    intro g fu s hk hf
    obtain ⟨fu, rfl⟩ : ∃ z, fu = z + 1 := ⟨fu - 1, by omega⟩
    rw [fX7_allOpenings_4, fX11_openings_4, h.1.1.1, h.1.2.1.1, if_neg (nI_nlt (by omega) (by omega)), if_neg (nI_nlt (by omega) (by omega))]
    exact ⟨_, rfl, rfl⟩
  | succ n ih =>
    intro g fu s hk hf
    obtain ⟨fu, rfl⟩ : ∃ z, fu = z + 1 := ⟨fu - 1, by omega⟩
    rw [fX7_allOpenings_4, fX11_openings_4, h.1.1.1, h.1.2.1.1, if_pos (nI_lt (by omega) (by omega)), if_pos (nI_lt (by omega) (by omega))]
    simp (disch := omega) only [ix26, ab_e, nI_clamp, lt_e, ix1]
    rw [← tr26 (by omega) (σ 7 0), h.2.1.1.1 _ (ok26 (by omega))]
    exact ih (g + 1) fu _ (by omega) (by omega)
theorem some_ite {c : Prop} {i : Decidable c} {a b : Option Int32} (h1 : ∃ r, a = some r) (h2 : ∃ r, b = some r) : ∃ r, (@ite _ c i a b) = some r := by
  split
  · exact h1
  · exact h2
theorem s_told {G Fb : Nat} {σ : Mem} (h : INV G Fb σ) (x : Int32) : SIR (fX10_told σ x) (fX11_told (σ 11 0) x) := by
  have hG := h.1.1.2.2.1
  obtain ⟨r, e1, e2⟩ := openings2 h G 0 1000 0 (by omega) (by omega)
  obtain ⟨h1, h2, ⟨n, _, t1, t2, _⟩, h4, ⟨s, nx, _, _, p1, _, p2, _⟩, h6, ⟨n7, _, s1, s2, _⟩, ⟨n8, _, b1, b2, _⟩, h9⟩ := h
  have e58 : σ 7 0 0 1 = σ 11 0 14 58 := by rw [← tr58 (σ 7 0)]; exact h2.2.2.2.1
  have e15 : σ 7 0 0 2 = σ 11 0 14 15 := by rw [← tr15 (σ 7 0), h2.1.1 _ ok15]
  have e16 : σ 7 0 0 4 = σ 11 0 14 16 := by rw [← tr16 (σ 7 0), h2.1.1 _ ok16]
  have e25 : σ 7 0 0 3 = σ 11 0 14 25 := by rw [← tr25 (σ 7 0), h2.1.1 _ ok25]
  unfold fX10_told fX11_told fX7_allOpenings fX11_openings SIR
  rw [show nI 0 = (0 : Int32) from rfl] at e1 e2
  rw [e1, e2, bd_e, e58, e15, e16, e25, h1.2.2.2.1, h1.1.1, h1.1.2.1, h1.2.1.1, h1.2.1.2.1, t1, t2, p1, p2, s1, s2, b1, b2, h1.2.2.2.2.2.1]
  simp only [ab_l (x := 58) (n := 59) (by decide) (by decide), ab_l (x := 15) (n := 59) (by decide) (by decide), ab_l (x := 16) (n := 59) (by decide) (by decide), ab_l (x := 25) (n := 59) (by decide) (by decide), show (58 : Int32).toNatClampNeg = 58 from rfl, show (15 : Int32).toNatClampNeg = 15 from rfl, show (16 : Int32).toNatClampNeg = 16 from rfl, show (25 : Int32).toNatClampNeg = 25 from rfl]
  have key : ∀ o : Option Int32, (∃ r, o = some r) → ∃ r, o = some r ∧ o = some r := fun o ⟨r, h⟩ => ⟨r, h, h⟩
  refine key _ ?_
  refine some_ite (some_ite ⟨_, rfl⟩ ⟨_, rfl⟩) (some_ite ⟨_, rfl⟩ (some_ite ⟨_, rfl⟩ (some_ite ⟨_, rfl⟩ (some_ite ⟨_, rfl⟩ (some_ite ⟨_, rfl⟩ (some_ite ⟨_, rfl⟩ (some_ite ⟨_, rfl⟩ (some_ite ⟨_, rfl⟩ (some_ite ⟨_, rfl⟩ (some_ite ⟨_, rfl⟩ (some_ite ⟨_, rfl⟩ (some_ite ⟨_, rfl⟩ ⟨_, rfl⟩))))))))))))
/-! images -/
theorem m_keep15 (mo : Grp) {i : Nat} (hi : i < 2) : ∀ (n k fu : Nat), k + n = 59 → n + 1 ≤ fu → fX11_keep_15 fu (wa mo 45 (blk (mo 14) (mo 45) (60 * i) k)) (nI i) (nI k) = some (1, wr (wr (wa mo 45 (upd (blk (mo 14) (mo 45) (60 * i) 59) (60 * i + 59) (mo 0 14))) 46 i 1) 0 32 0) := by
  intro n
  induction n with
  | zero =>
    intro k fu hk hf
    obtain ⟨fu, rfl⟩ : ∃ z, fu = z + 1 := ⟨fu - 1, by omega⟩
    obtain rfl : k = 59 := by omega
    rw [fX11_keep_15, if_neg (by decide), show (59 : Int32) = nI 59 from rfl, ix60, ab_e (by omega) (by omega), lt_e, ab_e (by omega) (by omega), lt_e, lt_e, nI_clamp (by omega), nI_clamp (by omega), wr_wa2, wa_oth _ (show ¬ 0 = 45 by omega)]
  | succ n ih =>
    intro k fu hk hf
    obtain ⟨fu, rfl⟩ : ∃ z, fu = z + 1 := ⟨fu - 1, by omega⟩
    rw [fX11_keep_15, if_pos (show nI k < 59 from nI_lt (b := 59) (by omega) (by omega)), ix60, ab_e (by omega) (by omega), ab_e (by omega) (by omega), lt_e, lt_e, nI_clamp (by omega), nI_clamp (by omega), ix1, wr_wa2, wa_oth _ (show ¬ 14 = 45 by omega), blk_succ]
    exact ih (k + 1) fu (by omega) (by omega)
theorem image2 (σ : Mem) (x : Int32) : (∃ k, k < 2 ∧ x = nI k ∧ fX2_isImage σ x = some 1 ∧ fX11_in x.toInt64 (0 : Int64) (1 : Int64) = some 1) ∨ (fX2_isImage σ x = some 0 ∧ fX11_in x.toInt64 (0 : Int64) (1 : Int64) = some 0) := by
  unfold fX2_isImage
  rcases in2 (c := 1) (by omega) (b := 1) rfl x with ⟨k, hk, he, n0, n1, n2, e⟩ | ⟨e, n0 | ⟨n0, n1, n2⟩⟩
  · exact Or.inl ⟨k, by omega, he, by rw [if_neg n0, if_pos (show x < 2 from n2)], e⟩
  · exact Or.inr ⟨by rw [if_pos n0], e⟩
  · exact Or.inr ⟨by rw [if_neg n0, if_neg (show ¬ x < 2 from n2)], e⟩
theorem w_keep {G Fb : Nat} {σ : Mem} (h : INV G Fb σ) (x : Int32) : SW (fX10_keep σ x) (fX11_keep (σ 11 0) x) σ := by
  have hF := h.1.1.2.2.2.1
  unfold fX10_keep fX11_keep
  rcases image2 σ x with ⟨i, hi, rfl, a1, a2⟩ | ⟨a1, a2⟩
  · rw [a1, a2, bd_e, bd_e, if_neg i10, if_neg i10]
    have em := m_keep15 (σ 11 0) hi 59 0 1000 (by omega) (by omega)
    rw [blk_0, wa_self, show nI 0 = (0 : Int32) from rfl] at em
    rw [em]
    unfold fX2_take fX3_forget
    obtain ⟨sc', c1, c2⟩ := c_copy (σ 7 (18 + i)) (σ 7 0)
    rw [ab_e (by omega) (by omega), nI_clamp (by omega), c1, bd_e, lt_e, ab_e (by omega) (by omega), lt_e, ab_e (by omega) (by omega), lt_e, bd_e, lt_e, bd_e]
    obtain ⟨h1, h2, h3, h4, ⟨s, nx, p1, p2, p3, p4, p5, p6⟩, h6, h7, h8, h9⟩ := h
    have e20 : upM σ 7 (18 + i) sc' 2 0 = σ 2 0 := rfl
    have e10 : upM σ 7 (18 + i) sc' 1 0 = σ 1 0 := rfl
    rw [e20, e10, upM_same, upM_upM]
    have e30 : ∀ g : Grp, upM (upM σ 7 (18 + i) sc') 2 0 g 3 0 = σ 3 0 := fun _ => rfl
    rw [e30]
    refine ⟨_, _, _, rfl, ?_, rfl, G, Fb, ?_, ?_, h3, h4, ?_, ?_, h7, h8, h9⟩
    · rfl
    · exact h1
    · have e7 : ∀ (a b c : Grp), upM (upM (upM (upM σ 7 (18 + i) sc') 2 0 a) 3 0 b) 11 0 c 7 0 = upM σ 7 (18 + i) sc' 7 0 := fun _ _ _ => rfl
      rw [e7, up7 (by omega)]
      exact h2
    · exact ⟨0, nx, by omega, p2, rfl, p4, rfl, fun j hj => by omega⟩
    · intro j hj
      have e7 : ∀ (a b c : Grp) (k : Nat), upM (upM (upM (upM σ 7 (18 + i) sc') 2 0 a) 3 0 b) 11 0 c 7 k = upM σ 7 (18 + i) sc' 7 k := fun _ _ _ _ => rfl
      rw [e7]
      by_cases hij : j = i
      · subst hij
        rw [show upM σ 7 (18 + j) sc' 7 (18 + j) = sc' from upM_same _ _ _ _, c2]
        show upd (σ 2 0 3) j 1 j = upd (σ 11 0 46) j 1 j ∧ (upd (σ 11 0 46) j 1 j = 0 ∨ upd (σ 11 0 46) j 1 j = 1) ∧ (upd (σ 11 0 46) j 1 j = 1 → SS G Fb (toRow (σ 7 0)) (fun k => upd (blk (σ 11 0 14) (σ 11 0 45) (60 * j) 59) (60 * j + 59) (σ 11 0 0 14) (60 * j + k)) ∧ upd (σ 2 0 2) j (σ 1 0 0 0) j = upd (blk (σ 11 0 14) (σ 11 0 45) (60 * j) 59) (60 * j + 59) (σ 11 0 0 14) (60 * j + 59) ∧ inN (upd (blk (σ 11 0 14) (σ 11 0 45) (60 * j) 59) (60 * j + 59) (σ 11 0 0 14) (60 * j + 59)) (2 ^ 31))
        rw [upd_at, upd_at, upd_at, upd_at]
        refine ⟨rfl, Or.inr rfl, fun _ => ⟨SS_E59 hF (fun k hk => ?_) h2, h9.1, h9.2⟩⟩
        show upd (blk (σ 11 0 14) (σ 11 0 45) (60 * j) 59) (60 * j + 59) (σ 11 0 0 14) (60 * j + k) = σ 11 0 14 k
        rw [upd_ne (by omega)]
        simp only [blk]
        rw [if_pos (by omega)]
        exact congrArg (σ 11 0 14) (by omega)
      · rw [up7 (by omega)]
        show upd (σ 2 0 3) i 1 j = upd (σ 11 0 46) i 1 j ∧ (upd (σ 11 0 46) i 1 j = 0 ∨ upd (σ 11 0 46) i 1 j = 1) ∧ (upd (σ 11 0 46) i 1 j = 1 → SS G Fb (toRow (σ 7 (18 + j))) (fun k => upd (blk (σ 11 0 14) (σ 11 0 45) (60 * i) 59) (60 * i + 59) (σ 11 0 0 14) (60 * j + k)) ∧ upd (σ 2 0 2) i (σ 1 0 0 0) j = upd (blk (σ 11 0 14) (σ 11 0 45) (60 * i) 59) (60 * i + 59) (σ 11 0 0 14) (60 * j + 59) ∧ inN (upd (blk (σ 11 0 14) (σ 11 0 45) (60 * i) 59) (60 * i + 59) (σ 11 0 0 14) (60 * j + 59)) (2 ^ 31))
        have hk : ∀ k, k < 60 → upd (blk (σ 11 0 14) (σ 11 0 45) (60 * i) 59) (60 * i + 59) (σ 11 0 0 14) (60 * j + k) = σ 11 0 45 (60 * j + k) := by
          intro k hk
          rw [upd_ne (by omega)]
          simp only [blk]
          rw [if_neg (by omega)]
        obtain ⟨q1, q2, q3⟩ := h6 j hj
        rw [upd_ne hij, upd_ne hij, upd_ne hij, hk 59 (by omega)]
        refine ⟨q1, q2, fun q4 => ⟨SS_E59 hF (fun k hk2 => hk k (by omega)) (q3 q4).1, (q3 q4).2⟩⟩
  · exact SW_no h (by rw [a1, bd_e, if_pos i00]) (by rw [a2, bd_e, if_pos i00])
