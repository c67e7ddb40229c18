/-! street -/
theorem cpstep {i0 n0 i1 n1 : Nat} (hne : ¬ i0 = i1) (m : Nat) (h0 : m ≤ n0) (h1 : m ≤ n1) (hb : n0 < 900) (hb1 : n1 < 2 ^ 31) (mo : Grp) : ∃ mo', fX11_copyRow mo i0 n0 i1 n1 (nI m) = some mo' ∧ (∀ k, k < m → mo' (i1 + 1) k = mo (i0 + 1) k) ∧ ∀ j, ¬ j = i1 + 1 → mo' j = mo j := by
  refine ⟨_, m_copy hne m h0 h1 hb hb1 mo, fun k hk => ?_, fun j hj => wa_oth _ hj⟩
  rw [wa_row]
  simp [cpyN, hk]
theorem m_take (mo : Grp) {g f : Nat} (hg : g ≤ 4) (hf : f ≤ 5) (h20 : mo 0 20 = 0 ∨ mo 0 20 = 1) (h22 : mo 0 22 = nI g) (h26 : mo 0 26 = nI f) : ∃ (mo' : Grp) (r : Row), fX11_takeRead mo = some mo' ∧ mo' 14 = r ∧ mo' 0 = upd (upd (upd (upd (upd (mo 0) 0 (mo 0 20)) 1 (if mo 0 20 = 0 then 0 else mo 22 0)) 2 (if mo 0 20 = 0 then 0 else mo 22 1)) 3 (nI g)) 7 (nI f) ∧
    (∀ k, k < g → mo' 5 k = mo 24 k ∧ mo' 6 k = mo 25 k ∧ mo' 7 k = mo 26 k) ∧ (∀ k, k < f → mo' 9 k = mo 28 k ∧ mo' 10 k = mo 29 k ∧ mo' 11 k = mo 30 k ∧ mo' 12 k = mo 31 k ∧ mo' 13 k = mo 32 k) ∧
    (∀ j, ¬ j = 0 → ¬ (5 ≤ j ∧ j ≤ 14) → mo' j = mo j) ∧
    (∀ k, k < f → r k = mo 29 k ∧ r (5 + k) = mo 32 k ∧ r (10 + k) = 60) ∧ r 15 = (if mo 0 20 = 0 then 0 else mo 22 0) ∧ r 16 = 0 ∧ r 25 = 0 ∧ r 58 = 0 ∧ ∀ g', g' < 4 → r (26 + g') = 0 ∧ r (30 + g') = -1 ∧ r (34 + g') = -1 ∧ ∀ k, k < f → r (38 + 5 * g' + k) = mo 32 k := by
  have e0 : mo = wa mo 0 (mo 0) := (wa_self mo 0).symm
  generalize hA : (if mo 0 20 = 0 then 0 else mo 22 0) = A
  generalize hB : (if mo 0 20 = 0 then 0 else mo 22 1) = B
  obtain ⟨Q0, hQ0⟩ : ∃ Q, Q = wa mo 0 (upd (upd (upd (upd (upd (mo 0) 0 (mo 0 20)) 1 A) 2 B) 3 (nI g)) 7 (nI f)) := ⟨_, rfl⟩
  obtain ⟨Q1, a1, b1, c1⟩ := cpstep (i0 := 23) (n0 := 4) (i1 := 4) (n1 := 4) (by omega) g hg hg (by omega) (by omega) Q0
  obtain ⟨Q2, a2, b2, c2⟩ := cpstep (i0 := 24) (n0 := 4) (i1 := 5) (n1 := 4) (by omega) g hg hg (by omega) (by omega) Q1
  obtain ⟨Q3, a3, b3, c3⟩ := cpstep (i0 := 25) (n0 := 4) (i1 := 6) (n1 := 4) (by omega) g hg hg (by omega) (by omega) Q2
  obtain ⟨Q4, a4, b4, c4⟩ := cpstep (i0 := 27) (n0 := 5) (i1 := 8) (n1 := 5) (by omega) f hf hf (by omega) (by omega) Q3
  obtain ⟨Q5, a5, b5, c5⟩ := cpstep (i0 := 28) (n0 := 5) (i1 := 9) (n1 := 5) (by omega) f hf hf (by omega) (by omega) Q4
  obtain ⟨Q6, a6, b6, c6⟩ := cpstep (i0 := 29) (n0 := 5) (i1 := 10) (n1 := 5) (by omega) f hf hf (by omega) (by omega) Q5
  obtain ⟨Q7, a7, b7, c7⟩ := cpstep (i0 := 30) (n0 := 5) (i1 := 11) (n1 := 5) (by omega) f hf hf (by omega) (by omega) Q6
  obtain ⟨Q8, a8, b8, c8⟩ := cpstep (i0 := 31) (n0 := 5) (i1 := 12) (n1 := 5) (by omega) f hf hf (by omega) (by omega) Q7
  have z0 : Q0 0 3 = nI g ∧ Q0 0 7 = nI f ∧ Q0 0 1 = A := by
    rw [hQ0, wa_row]
    refine ⟨?_, ?_, ?_⟩
    · rw [upd_ne (by omega), upd_at]
    · rw [upd_at]
    · rw [upd_ne (by omega), upd_ne (by omega), upd_ne (by omega), upd_at]
  have r1 : Q1 0 = Q0 0 := c1 0 (by omega)
  have r2 : Q2 0 = Q0 0 := (c2 0 (by omega)).trans r1
  have r3 : Q3 0 = Q0 0 := (c3 0 (by omega)).trans r2
  have r4 : Q4 0 = Q0 0 := (c4 0 (by omega)).trans r3
  have r5 : Q5 0 = Q0 0 := (c5 0 (by omega)).trans r4
  have r6 : Q6 0 = Q0 0 := (c6 0 (by omega)).trans r5
  have r7 : Q7 0 = Q0 0 := (c7 0 (by omega)).trans r6
  have r8 : Q8 0 = Q0 0 := (c8 0 (by omega)).trans r7
  obtain ⟨r, d1, d2, d3, d4, d5, d6, d7⟩ := m_begin Q8 hf (by rw [r8]; exact z0.2.1)
  have e47 : fX11_takeRead_47 (wa mo 0 (upd (upd (mo 0) 0 (mo 0 20)) 1 A)) B = some (wa Q8 14 r) := by
    unfold fX11_takeRead_47
    rw [lt_e, lt_e, lt_e, wa_wr0, wa_row, upd_ne (show ¬ 22 = 2 by omega), upd_ne (show ¬ 22 = 1 by omega), upd_ne (show ¬ 22 = 0 by omega), h22, wa_wr0, wa_row, upd_ne (show ¬ 26 = 3 by omega), upd_ne (show ¬ 26 = 2 by omega), upd_ne (show ¬ 26 = 1 by omega), upd_ne (show ¬ 26 = 0 by omega), h26, wa_wr0, ← hQ0]
    rw [z0.1, a1, bd_e, r1, z0.1, a2, bd_e, r2, z0.1, a3, bd_e, r3, z0.2.1, a4, bd_e, r4, z0.2.1, a5, bd_e, r5, z0.2.1, a6, bd_e, r6, z0.2.1, a7, bd_e, r7, z0.2.1, a8, bd_e, d1, bd_e]
  have e26 : fX11_takeRead_26 (wa mo 0 (upd (mo 0) 0 (mo 0 20))) A = some (wa Q8 14 r) := by
    unfold fX11_takeRead_26
    rw [lt_e, wa_wr0, wa_row, upd_ne (show ¬ 20 = 1 by omega), upd_ne (show ¬ 20 = 0 by omega)]
    rcases h20 with h | h
    · rw [if_pos h] at hB ⊢
      rw [hB]; exact e47
    · have hn : ¬ mo 0 20 = 0 := by rw [h]; decide
      rw [if_neg hn] at hB ⊢
      rw [ab_l (by decide) (by decide), show (1 : Int32).toNatClampNeg = 1 from rfl, wa_oth _ (show ¬ 22 = 0 by omega), hB]
      exact e47
  refine ⟨wa Q8 14 r, r, ?_, wa_row _ _ _, ?_, ?_, ?_, ?_, ?_, ?_, d4, d5, d6, ?_⟩
  · unfold fX11_takeRead
    rw [zb_e h20, lt_e]
    have ew : wr mo 0 0 (mo 0 20) = wa mo 0 (upd (mo 0) 0 (mo 0 20)) := by
      rw [← wa_wr0, ← e0]
    rw [ew, wa_row, upd_ne (show ¬ 20 = 0 by omega)]
    rcases h20 with h | h
    · rw [if_pos h] at hA ⊢
      rw [hA]; exact e26
    · have hn : ¬ mo 0 20 = 0 := by rw [h]; decide
      rw [if_neg hn] at hA ⊢
      rw [ab_l (by decide) (by decide), show (0 : Int32).toNatClampNeg = 0 from rfl, wa_oth _ (show ¬ 22 = 0 by omega), hA]
      exact e26
  · rw [wa_oth _ (by omega), r8, hQ0, wa_row]
  · intro k hk
    rw [wa_oth _ (show ¬ 5 = 14 by omega), wa_oth _ (show ¬ 6 = 14 by omega), wa_oth _ (show ¬ 7 = 14 by omega)]
    refine ⟨?_, ?_, ?_⟩
    · rw [c8 5 (by omega), c7 5 (by omega), c6 5 (by omega), c5 5 (by omega), c4 5 (by omega), c3 5 (by omega), c2 5 (by omega), b1 k hk, hQ0]; rfl
    · rw [c8 6 (by omega), c7 6 (by omega), c6 6 (by omega), c5 6 (by omega), c4 6 (by omega), c3 6 (by omega), b2 k hk, c1 25 (by omega), hQ0]; rfl
    · rw [c8 7 (by omega), c7 7 (by omega), c6 7 (by omega), c5 7 (by omega), c4 7 (by omega), b3 k hk, c2 26 (by omega), c1 26 (by omega), hQ0]; rfl
  · intro k hk
    rw [wa_oth _ (show ¬ 9 = 14 by omega), wa_oth _ (show ¬ 10 = 14 by omega), wa_oth _ (show ¬ 11 = 14 by omega), wa_oth _ (show ¬ 12 = 14 by omega), wa_oth _ (show ¬ 13 = 14 by omega)]
    refine ⟨?_, ?_, ?_, ?_, ?_⟩
    · rw [c8 9 (by omega), c7 9 (by omega), c6 9 (by omega), c5 9 (by omega), b4 k hk, c3 28 (by omega), c2 28 (by omega), c1 28 (by omega), hQ0]; rfl
    · rw [c8 10 (by omega), c7 10 (by omega), c6 10 (by omega), b5 k hk, c4 29 (by omega), c3 29 (by omega), c2 29 (by omega), c1 29 (by omega), hQ0]; rfl
    · rw [c8 11 (by omega), c7 11 (by omega), b6 k hk, c5 30 (by omega), c4 30 (by omega), c3 30 (by omega), c2 30 (by omega), c1 30 (by omega), hQ0]; rfl
    · rw [c8 12 (by omega), b7 k hk, c6 31 (by omega), c5 31 (by omega), c4 31 (by omega), c3 31 (by omega), c2 31 (by omega), c1 31 (by omega), hQ0]; rfl
    · rw [b8 k hk, c7 32 (by omega), c6 32 (by omega), c5 32 (by omega), c4 32 (by omega), c3 32 (by omega), c2 32 (by omega), c1 32 (by omega), hQ0]; rfl
  · intro j h1 h2
    rw [wa_oth _ (by omega), c8 j (by omega), c7 j (by omega), c6 j (by omega), c5 j (by omega), c4 j (by omega), c3 j (by omega), c2 j (by omega), c1 j (by omega), hQ0, wa_oth _ h1]
  · intro k hk
    obtain ⟨k1, k2, k3⟩ := d2 k hk
    refine ⟨?_, ?_, k3⟩
    · rw [k1, c8 10 (by omega), c7 10 (by omega), c6 10 (by omega), b5 k hk, c4 29 (by omega), c3 29 (by omega), c2 29 (by omega), c1 29 (by omega), hQ0]; rfl
    · rw [k2, b8 k hk, c7 32 (by omega), c6 32 (by omega), c5 32 (by omega), c4 32 (by omega), c3 32 (by omega), c2 32 (by omega), c1 32 (by omega), hQ0]; rfl
  · rw [d3, r8]; exact z0.2.2
  · intro g' hg'
    obtain ⟨k1, k2, k3, k4⟩ := d7 g' hg'
    refine ⟨k1, k2, k3, fun k hk => ?_⟩
    rw [k4 k hk, b8 k hk, c7 32 (by omega), c6 32 (by omega), c5 32 (by omega), c4 32 (by omega), c3 32 (by omega), c2 32 (by omega), c1 32 (by omega), hQ0]; rfl
theorem c_forget2 (σ : Mem) : fX2_forget σ = some (upM (upM σ 2 0 (wr (σ 2 0) 3 0 0)) 2 0 (wr (wr (σ 2 0) 3 0 0) 3 1 0)) := by
  have key : ∀ fu, fX2_forget_2 (fu + 3) σ (nI 0) = some (upM (upM σ 2 0 (wr (σ 2 0) 3 0 0)) 2 0 (wr (wr (σ 2 0) 3 0 0) 3 1 0)) := by
    intro fu
    rw [fX2_forget_2, if_pos (show nI 0 < 2 by decide), ab_e (by omega) (by omega), lt_e, lt_e, ix1, nI_clamp (by omega), fX2_forget_2, if_pos (show nI (0 + 1) < 2 by decide), ab_e (by omega) (by omega), lt_e, lt_e, ix1, nI_clamp (by omega), fX2_forget_2, if_neg (show ¬ nI (0 + 1 + 1) < 2 by decide), upM_same]
  exact key 997
theorem c_clear2 : ∀ (n k fu : Nat) (se : Grp), k + n = 256 → n + 1 ≤ fu → (∀ s, s < k → se 1 s = 1) → ∃ se', fX8_clear_2 fu se (nI k) = some se' ∧ (∀ s, s < 256 → se' 1 s = 1) ∧ se' 0 2 = 0 := by
  intro n
  induction n with
  | zero =>
    intro k fu se hk hfu hs
    obtain ⟨fu, rfl⟩ : ∃ z, fu = z + 1 := ⟨fu - 1, by omega⟩
    obtain rfl : k = 256 := by omega
    rw [fX8_clear_2, if_neg (show ¬ nI 256 < 256 by decide), lt_e]
    exact ⟨_, rfl, hs, rfl⟩
  | succ n ih =>
    intro k fu se hk hfu hs
    obtain ⟨fu, rfl⟩ : ∃ z, fu = z + 1 := ⟨fu - 1, by omega⟩
    rw [fX8_clear_2, if_pos (show nI k < 256 from nI_lt (b := 256) (by omega) (by omega)), ab_e (by omega) (by omega), nI_clamp (by omega), lt_e, lt_e, ix1]
    refine ih (k + 1) fu _ (by omega) (by omega) (fun s hs' => ?_)
    rw [wr_row]
    by_cases e : s = k
    · rw [e, upd_at]
    · rw [upd_ne e]; exact hs s (by omega)
theorem c_clear (se : Grp) : ∃ se', fX8_clear se = some se' ∧ (∀ s, s < 256 → se' 1 s = 1) ∧ se' 0 2 = 0 := c_clear2 256 0 1000 se (by omega) (by omega) (fun s hs => by omega)
