theorem INV_rem {G Fb : Nat} {σ : Mem} (h : INV G Fb σ) : ∃ (σ' : Mem) (mo' : Grp), fX3_remember σ = some σ' ∧ fX11_remember (σ 11 0) = some mo' ∧ INV G Fb (upM σ' 11 0 mo') ∧ (∀ t k, ¬ t = 3 → ¬ (t = 7 ∧ 2 ≤ k ∧ k < 18) → σ' t k = σ t k) ∧ (∀ j, ¬ j = 0 → ¬ j = 34 → mo' j = σ 11 0 j) ∧ ∀ i, ¬ i = 32 → mo' 0 i = σ 11 0 0 i := by
  obtain ⟨h1, h2, h3, h4, h5, h6, h7, h8, h9⟩ := h
  have hF := h1.1.2.2.2.1
  obtain ⟨s, nx, a1, a2, a3, a4, a5, a6⟩ := h5
  obtain ⟨sc', pa', b1, b2, b3, b4⟩ := c_rem σ a1 a2 a3 a4
  obtain ⟨p, s', c1, c2, c3, c4⟩ := m_rem (σ 11 0) a1 a5
  refine ⟨_, _, b1, c1, ?_, ?_, ?_, ?_⟩
  · refine ⟨?_, ?_, ?_, ?_, ?_, ?_, ?_, ?_, ?_⟩
    · exact h1
    · have e1 : upM (upM (upM σ 7 (2 + nx) sc') 3 0 pa') 11 0 (wr (wa (σ 11 0) 34 p) 0 32 (nI s')) 7 0 = σ 7 0 := by
        show upM σ 7 (2 + nx) sc' 7 0 = σ 7 0
        exact up7 (by omega)
      rw [e1]
      exact h2
    · exact h3
    · exact h4
    · refine ⟨s', (nx + 1) % 16, by rw [c2]; split <;> omega, by omega, by rw [c2]; exact b4, b3, rfl, ?_⟩
      intro j hj
      have hrow : (fun i => upM (upM (upM σ 7 (2 + nx) sc') 3 0 pa') 11 0 (wr (wa (σ 11 0) 34 p) 0 32 (nI s')) 11 0 34 (59 * j + i)) = fun i => p (59 * j + i) := rfl
      rw [hrow]
      have hsc : ∀ k, upM (upM (upM σ 7 (2 + nx) sc') 3 0 pa') 11 0 (wr (wa (σ 11 0) 34 p) 0 32 (nI s')) 7 k = upM σ 7 (2 + nx) sc' 7 k := fun k => rfl
      rw [hsc]
      by_cases hlast : j = s' - 1
      · have hidx : 2 + ((nx + 1) % 16 + 16 - s' + j) % 16 = 2 + nx := by
          have : s' ≤ 16 := by rw [c2]; split <;> omega
          omega
        rw [hidx, upM_same, b2]
        refine SS_E59 hF (fun i hi => ?_) h2
        show p (59 * j + i) = _
        rw [hlast]
        exact c3 i hi
      · by_cases hs16 : s = 16
        · rw [if_pos hs16] at c2
          have hidx : 2 + ((nx + 1) % 16 + 16 - s' + j) % 16 = 2 + (nx + 16 - s + (j + 1)) % 16 := by omega
          have hne : ¬ 2 + (nx + 16 - s + (j + 1)) % 16 = 2 + nx := by omega
          rw [hidx, up7 hne]
          refine SS_E59 hF (fun i hi => ?_) (a6 (j + 1) (by omega))
          have := c4 j i (by omega) hi
          rw [if_pos hs16] at this
          exact this
        · rw [if_neg hs16] at c2
          have hidx : 2 + ((nx + 1) % 16 + 16 - s' + j) % 16 = 2 + (nx + 16 - s + j) % 16 := by omega
          have hne : ¬ 2 + (nx + 16 - s + j) % 16 = 2 + nx := by omega
          rw [hidx, up7 hne]
          refine SS_E59 hF (fun i hi => ?_) (a6 j (by omega))
          have := c4 j i (by omega) hi
          rw [if_neg hs16] at this
          exact this
    · refine Ig_sc (sc := σ 7) ?_ (fun k hk _ => ?_)
      · exact h6
      · show upM σ 7 (2 + nx) sc' 7 k = σ 7 k
        exact up7 (by omega)
    · exact h7
    · exact h8
    · exact h9
  · intro t k ht h7'
    rw [upM_ne (fun e => ht e.1)]
    refine upM_ne (fun e => h7' ⟨e.1, ?_⟩)
    omega
  · intro j hj hj2
    rw [wr_oth _ hj, wa_oth _ hj2]
  · intro i hi
    rw [wr_ne (fun e => hi e.2), wa_oth _ (by omega)]
/-- a call of both: what they answer, and what holds behind it -/
def SIM (fx : Mem → Option (Int32 × Mem)) (fm : Grp → Option (Int32 × Grp)) (σ : Mem) : Prop :=
  ∃ (r : Int32) (σ1 : Mem) (mo1 : Grp), fx σ = some (r, σ1) ∧ σ1 11 0 = σ 11 0 ∧ fm (σ 11 0) = some (r, mo1) ∧ ∃ G Fb, INV G Fb (upM σ1 11 0 mo1)
theorem SIM_same {fx : Mem → Option (Int32 × Mem)} {fm : Grp → Option (Int32 × Grp)} {σ : Mem} {G Fb : Nat} (h : INV G Fb σ) {r : Int32} (h1 : fx σ = some (r, σ)) (h2 : fm (σ 11 0) = some (r, σ 11 0)) : SIM fx fm σ :=
  ⟨r, σ, σ 11 0, h1, rfl, h2, G, Fb, by rw [upM_self]; exact h⟩
theorem w64_lt (a b : Int32) : a.toInt64 < b.toInt64 ↔ a < b := by rw [Int64.lt_iff_toInt_lt, Int32.lt_iff_toInt_lt, Int32.toInt_toInt64, Int32.toInt_toInt64]
theorem w64_le (a b : Int32) : a.toInt64 ≤ b.toInt64 ↔ a ≤ b := by rw [Int64.le_iff_toInt_le, Int32.le_iff_toInt_le, Int32.toInt_toInt64, Int32.toInt_toInt64]
theorem m_in (a b c : Int32) : fX11_in a.toInt64 b.toInt64 c.toInt64 = some (if b ≤ a ∧ a ≤ c then 1 else 0) := by
  unfold fX11_in
  by_cases h : b ≤ a
  · rw [if_neg (fun e => Int32.not_le.mpr ((w64_lt _ _).mp ((lg_cmp_lt _ _).mp e)) h)]
    by_cases h2 : a ≤ c
    · rw [if_pos ((lg_cmp_le _ _).mpr ((w64_le _ _).mpr h2)), if_pos ⟨h, h2⟩]
    · rw [if_neg (fun e => h2 ((w64_le _ _).mp ((lg_cmp_le _ _).mp e))), if_neg (fun e => h2 e.2)]
  · rw [if_pos ((lg_cmp_lt _ _).mpr ((w64_lt _ _).mpr (Int32.not_le.mp h))), if_neg (fun e => h e.1)]
theorem m_in0 (a c : Int32) : fX11_in a.toInt64 (0 : Int64) c.toInt64 = some (if 0 ≤ a ∧ a ≤ c then 1 else 0) := m_in a 0 c
/-- a number in 0 .. n is nI of one -/
theorem of_range {a : Int32} {n : Nat} (hn : n < 2 ^ 31) (h0 : 0 ≤ a) (h1 : a < nI n) : ∃ k, k < n ∧ a = nI k := by
  have e0 := Int32.le_iff_toInt_le.mp h0
  have e1 := Int32.lt_iff_toInt_lt.mp h1
  rw [nI_toInt hn] at e1
  rw [show (0 : Int32).toInt = 0 from rfl] at e0
  refine ⟨a.toInt.toNat, by omega, ?_⟩
  apply Int32.toInt_inj.mp
  rw [nI_toInt (by omega)]
  omega
theorem m_isFob (mo : Grp) {Fb : Nat} (hF : Fb ≤ 5) (h : mo 0 7 = nI Fb) (x : Int32) : fX11_isFob mo x = some (if ∃ f, f < Fb ∧ x = nI f then 1 else 0) := by
  sorry
