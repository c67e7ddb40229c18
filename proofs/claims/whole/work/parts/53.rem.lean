theorem INV_rem {G Fb : Nat} {σ : Mem} (h : INV G Fb σ) : ∃ (σ' : Mem) (mo' : Grp), fX3_remember σ = some σ' ∧ fX11_remember (σ 11 0) = some mo' ∧ INV G Fb (upM σ' 11 0 mo') ∧ (∀ t k, ¬ t = 3 → ¬ (t = 7 ∧ 2 ≤ k ∧ k < 18) → σ' t k = σ t k) ∧ (∀ j, ¬ j = 0 → ¬ j = 34 → mo' j = σ 11 0 j) ∧ ∀ i, ¬ i = 32 → mo' 0 i = σ 11 0 0 i := by
  obtain ⟨h1, h2, h3, h4, h5, h6, h7, h8, h9⟩ := h
  have hF := h1.1.2.2.2.1
  obtain ⟨s, nx, a1, a2, a3, a4, a5, a6⟩ := h5
  obtain ⟨sc', pa', b1, b2, b3, b4⟩ := c_rem σ a1 a2 a3 a4
  obtain ⟨p, s', c1, c2, c3, c4⟩ := m_rem (σ 11 0) a1 a5
  refine ⟨_, _, b1, c1, ?_, ?_, ?_, ?_⟩
  · refine ⟨?_, ?_, ?_, ?_, ?_, ?_, ?_, ?_, ?_⟩
    · exact h1
    · have e1 : upM (upM (upM σ 7 (2 + nx) sc') 3 0 pa') 11 0 (wr (wa (σ 11 0) 34 p) 0 32 (nI s')) 7 0 = σ 7 0 := by
        show upM σ 7 (2 + nx) sc' 7 0 = σ 7 0
        exact up7 (by omega)
      rw [e1]
      exact h2
    · exact h3
    · exact h4
    · refine ⟨s', (nx + 1) % 16, by rw [c2]; split <;> omega, by omega, by rw [c2]; exact b4, b3, rfl, ?_⟩
      intro j hj
      have hrow : (fun i => upM (upM (upM σ 7 (2 + nx) sc') 3 0 pa') 11 0 (wr (wa (σ 11 0) 34 p) 0 32 (nI s')) 11 0 34 (59 * j + i)) = fun i => p (59 * j + i) := rfl
      rw [hrow]
      have hsc : ∀ k, upM (upM (upM σ 7 (2 + nx) sc') 3 0 pa') 11 0 (wr (wa (σ 11 0) 34 p) 0 32 (nI s')) 7 k = upM σ 7 (2 + nx) sc' 7 k := fun k => rfl
      rw [hsc]
      by_cases hlast : j = s' - 1
      · have hidx : 2 + ((nx + 1) % 16 + 16 - s' + j) % 16 = 2 + nx := by
          have : s' ≤ 16 := by rw [c2]; split <;> omega
          omega
        rw [hidx, upM_same, b2]
        refine SS_E59 hF (fun i hi => ?_) h2
        show p (59 * j + i) = _
        rw [hlast]
        exact c3 i hi
      · by_cases hs16 : s = 16
        · rw [if_pos hs16] at c2
          have hidx : 2 + ((nx + 1) % 16 + 16 - s' + j) % 16 = 2 + (nx + 16 - s + (j + 1)) % 16 := by omega
          have hne : ¬ 2 + (nx + 16 - s + (j + 1)) % 16 = 2 + nx := by omega
          rw [hidx, up7 hne]
          refine SS_E59 hF (fun i hi => ?_) (a6 (j + 1) (by omega))
          have := c4 j i (by omega) hi
          rw [if_pos hs16] at this
          exact this
        · rw [if_neg hs16] at c2
          have hidx : 2 + ((nx + 1) % 16 + 16 - s' + j) % 16 = 2 + (nx + 16 - s + j) % 16 := by omega
          have hne : ¬ 2 + (nx + 16 - s + j) % 16 = 2 + nx := by omega
          rw [hidx, up7 hne]
          refine SS_E59 hF (fun i hi => ?_) (a6 j (by omega))
          have := c4 j i (by omega) hi
          rw [if_neg hs16] at this
          exact this
    · refine Ig_sc (sc := σ 7) ?_ (fun k hk _ => ?_)
      · exact h6
      · show upM σ 7 (2 + nx) sc' 7 k = σ 7 k
        exact up7 (by omega)
    · exact h7
    · exact h8
    · exact h9
  · intro t k ht h7'
    rw [upM_ne (fun e => ht e.1)]
    refine upM_ne (fun e => h7' ⟨e.1, ?_⟩)
    omega
  · intro j hj hj2
    rw [wr_oth _ hj, wa_oth _ hj2]
  · intro i hi
    rw [wr_ne (fun e => hi e.2), wa_oth _ (by omega)]
theorem i10 : ¬ (1 : Int32) = 0 := by decide
theorem i00 : (0 : Int32) = 0 := rfl
/-- a call of both: what they answer, and what holds behind it -/
def SIM (fx : Mem → Option (Int32 × Mem)) (fm : Grp → Option (Int32 × Grp)) (σ : Mem) : Prop :=
  ∃ (r : Int32) (σ1 : Mem) (mo1 : Grp), fx σ = some (r, σ1) ∧ σ1 11 0 = σ 11 0 ∧ fm (σ 11 0) = some (r, mo1) ∧ ∃ G Fb, INV G Fb (upM σ1 11 0 mo1)
theorem SIM_same {fx : Mem → Option (Int32 × Mem)} {fm : Grp → Option (Int32 × Grp)} {σ : Mem} {G Fb : Nat} (h : INV G Fb σ) {r : Int32} (h1 : fx σ = some (r, σ)) (h2 : fm (σ 11 0) = some (r, σ 11 0)) : SIM fx fm σ :=
  ⟨r, σ, σ 11 0, h1, rfl, h2, G, Fb, by rw [upM_self]; exact h⟩
theorem w64_lt (a b : Int32) : a.toInt64 < b.toInt64 ↔ a < b := by rw [Int64.lt_iff_toInt_lt, Int32.lt_iff_toInt_lt, Int32.toInt_toInt64, Int32.toInt_toInt64]
theorem w64_le (a b : Int32) : a.toInt64 ≤ b.toInt64 ↔ a ≤ b := by rw [Int64.le_iff_toInt_le, Int32.le_iff_toInt_le, Int32.toInt_toInt64, Int32.toInt_toInt64]
theorem m_in (a b c : Int32) : fX11_in a.toInt64 b.toInt64 c.toInt64 = some (if b ≤ a ∧ a ≤ c then 1 else 0) := by
  unfold fX11_in
  by_cases h : b ≤ a
  · rw [if_neg (fun e => Int32.not_le.mpr ((w64_lt _ _).mp ((lg_cmp_lt _ _).mp e)) h)]
    by_cases h2 : a ≤ c
    · rw [if_pos ((lg_cmp_le _ _).mpr ((w64_le _ _).mpr h2)), if_pos ⟨h, h2⟩]
    · rw [if_neg (fun e => h2 ((w64_le _ _).mp ((lg_cmp_le _ _).mp e))), if_neg (fun e => h2 e.2)]
  · rw [if_pos ((lg_cmp_lt _ _).mpr ((w64_lt _ _).mpr (Int32.not_le.mp h))), if_neg (fun e => h e.1)]
theorem m_in0 (a c : Int32) : fX11_in a.toInt64 (0 : Int64) c.toInt64 = some (if 0 ≤ a ∧ a ≤ c then 1 else 0) := m_in a 0 c
/-- a number in 0 .. n is nI of one -/
theorem of_range {a : Int32} {n : Nat} (hn : n < 2 ^ 31) (h0 : 0 ≤ a) (h1 : a < nI n) : ∃ k, k < n ∧ a = nI k := by
  have e0 := Int32.le_iff_toInt_le.mp h0
  have e1 := Int32.lt_iff_toInt_lt.mp h1
  rw [nI_toInt hn] at e1
  rw [show (0 : Int32).toInt = 0 from rfl] at e0
  refine ⟨a.toInt.toNat, by omega, ?_⟩
  apply Int32.toInt_inj.mp
  rw [nI_toInt (by omega)]
  omega
theorem sub1_le {Fb : Nat} (hF : Fb ≤ 1000) (x : Int32) : x ≤ nI Fb - 1 ↔ x < nI Fb := by
  rw [Int32.le_iff_toInt_le, Int32.lt_iff_toInt_lt, show (1 : Int32) = nI 1 from rfl, pk_sub_toInt (by omega) (by omega), nI_toInt (by omega)]
  omega
theorem m_inF {Fb : Nat} (hF : Fb ≤ 1000) (x : Int32) : (∃ f, f < Fb ∧ x = nI f ∧ fX11_in x.toInt64 (0 : Int64) (nI Fb - 1).toInt64 = some 1) ∨ ((¬ ∃ f, f < Fb ∧ x = nI f) ∧ fX11_in x.toInt64 (0 : Int64) (nI Fb - 1).toInt64 = some 0 ∧ (x < 0 ∨ (¬ x < 0 ∧ ¬ x < nI Fb))) := by
  rw [m_in0]
  by_cases h0 : 0 ≤ x
  · by_cases h1 : x < nI Fb
    · obtain ⟨k, hk, he⟩ := of_range (by omega) h0 h1
      exact Or.inl ⟨k, hk, he, by rw [if_pos ⟨h0, (sub1_le hF x).mpr h1⟩]⟩
    · refine Or.inr ⟨?_, by rw [if_neg (fun e => h1 ((sub1_le hF x).mp e.2))], Or.inr ⟨Int32.not_lt.mpr h0, h1⟩⟩
      rintro ⟨f, hf, rfl⟩
      exact h1 (nI_lt hf (by omega))
  · refine Or.inr ⟨?_, by rw [if_neg (fun e => h0 e.1)], Or.inl (Int32.not_le.mp h0)⟩
    rintro ⟨f, hf, rfl⟩
    exact h0 (nI_pos' (by omega))
/-- a number of a fob, or of none: class and model say the same -/
theorem fobs2 {pl mo : Grp} {G Fb : Nat} (h : Pn G Fb pl mo) (x : Int32) : (∃ f, f < Fb ∧ x = nI f ∧ fX4_isFob pl x = some 1 ∧ fX11_isFob mo x = some 1) ∨ (fX4_isFob pl x = some 0 ∧ fX11_isFob mo x = some 0) := by
  have hF := h.1.2.2.2.1
  unfold fX4_isFob fX11_isFob
  rw [h.1.2.1, h.2.1.2.1]
  rcases m_inF (Fb := Fb) (by omega) x with ⟨f, hf, he, e⟩ | ⟨_, e, hx⟩
  · refine Or.inl ⟨f, hf, he, ?_, ?_⟩
    · rw [he, if_neg (nI_pos (by omega)), if_pos (nI_lt hf (by omega))]
    · rw [e, bd_e, zb_e (Or.inr rfl)]
  · refine Or.inr ⟨?_, ?_⟩
    · rcases hx with hx | ⟨hx, hx2⟩
      · rw [if_pos hx]
      · rw [if_neg hx, if_neg hx2]
    · rw [e, bd_e, zb_e (Or.inl rfl)]
theorem gates2 {pl mo : Grp} {G Fb : Nat} (h : Pn G Fb pl mo) (x : Int32) : (∃ g, g < G ∧ x = nI g ∧ fX4_isGate pl x = some 1 ∧ fX11_isGate mo x = some 1) ∨ (fX4_isGate pl x = some 0 ∧ fX11_isGate mo x = some 0) := by
  have hG := h.1.2.2.1
  unfold fX4_isGate fX11_isGate
  rw [h.1.1, h.2.1.1]
  rcases m_inF (Fb := G) (by omega) x with ⟨f, hf, he, e⟩ | ⟨_, e, hx⟩
  · refine Or.inl ⟨f, hf, he, ?_, ?_⟩
    · rw [he, if_neg (nI_pos (by omega)), if_pos (nI_lt hf (by omega))]
    · rw [e, bd_e, zb_e (Or.inr rfl)]
  · refine Or.inr ⟨?_, ?_⟩
    · rcases hx with hx | ⟨hx, hx2⟩
      · rw [if_pos hx]
      · rw [if_neg hx, if_neg hx2]
    · rw [e, bd_e, zb_e (Or.inl rfl)]
/-- a gate and a fob that are there, or not -/
theorem known2 {σ : Mem} {mo : Grp} {G Fb : Nat} (h : Pn G Fb (σ 4 0) mo) (x y : Int32) : (∃ g f, g < G ∧ f < Fb ∧ x = nI g ∧ y = nI f ∧ fX10_areKnown σ x y = some 1 ∧ fX11_isGate mo x = some 1 ∧ fX11_isFob mo y = some 1) ∨ (fX10_areKnown σ x y = some 0 ∧ (fX11_isGate mo x = some 0 ∨ (fX11_isGate mo x = some 1 ∧ fX11_isFob mo y = some 0))) := by
  unfold fX10_areKnown
  rcases gates2 h x with ⟨g, hg, e, a1, a2⟩ | ⟨a1, a2⟩
  · rcases fobs2 h y with ⟨f, hf, e2, b1, b2⟩ | ⟨b1, b2⟩
    · exact Or.inl ⟨g, f, hg, hf, e, e2, by rw [a1, bd_e, if_neg i10, b1, bd_e, if_neg i10], a2, b2⟩
    · exact Or.inr ⟨by rw [a1, bd_e, if_neg i10, b1, bd_e, if_pos i00], Or.inr ⟨a2, b2⟩⟩
  · exact Or.inr ⟨by rw [a1, bd_e, if_pos i00], Or.inl a2⟩
/-- a kept code's number, or none -/
theorem kept2 {sc : Grp} {rm : Row} {K : Nat} (hK : K ≤ 8) (h1 : sc 0 4 = nI K) (h2 : rm 16 = nI K) (x : Int32) : (∃ i, i < K ∧ x = nI i ∧ fX7_isKept sc x = some 1 ∧ fX11_in x.toInt64 (0 : Int64) (rm 16 - 1).toInt64 = some 1) ∨ (fX7_isKept sc x = some 0 ∧ fX11_in x.toInt64 (0 : Int64) (rm 16 - 1).toInt64 = some 0) := by
  unfold fX7_isKept
  rw [h1, h2]
  rcases m_inF (Fb := K) (by omega) x with ⟨f, hf, he, e⟩ | ⟨_, e, hx⟩
  · exact Or.inl ⟨f, hf, he, by rw [he, if_neg (nI_pos (by omega)), if_pos (nI_lt hf (by omega))], e⟩
  · refine Or.inr ⟨?_, e⟩
    rcases hx with hx | ⟨hx, hx2⟩
    · rw [if_pos hx]
    · rw [if_neg hx, if_neg hx2]
/-- both only answer -/
def SIR (ox om : Option Int32) : Prop := ∃ r, ox = some r ∧ om = some r
theorem s_fault {G Fb : Nat} {σ : Mem} (h : INV G Fb σ) : SIR (fX10_fault σ) (fX11_fault (σ 11 0)) := ⟨_, rfl, by rw [show fX11_fault (σ 11 0) = some (σ 11 0 0 17) from rfl, ← h.2.2.2.1]⟩
theorem s_last {G Fb : Nat} {σ : Mem} (h : INV G Fb σ) (x y : Int32) : SIR (fX10_last σ x y) (fX11_last (σ 11 0) x y) := by
  obtain ⟨h1, h2, -⟩ := h
  have hG := h1.1.2.2.1
  have hF := h1.1.2.2.2.1
  unfold fX10_last fX11_last SIR
  rcases known2 h1 x y with ⟨g, f, hg, hf, rfl, rfl, a1, a2, a3⟩ | ⟨a1, a2⟩
  · rw [a1, a2, bd_e, bd_e, if_neg i10, if_neg i10, a3, bd_e, if_neg i10, c_last _ (by omega) (by omega), bd_e, ix38, ab_e (by omega) (by omega), nI_clamp (by omega)]
    exact ⟨_, rfl, by rw [h2.1.1 _ (ok38 hF (by omega) hf)]⟩
  · rw [a1, bd_e, if_pos i00]
    rcases a2 with a2 | ⟨a2, a3⟩
    · rw [a2, bd_e, if_pos i00]
      exact ⟨_, rfl, rfl⟩
    · rw [a2, bd_e, if_neg i10, a3, bd_e, if_pos i00]
      exact ⟨_, rfl, rfl⟩
theorem s_kept {G Fb : Nat} {σ : Mem} (h : INV G Fb σ) (x : Int32) : SIR (fX10_kept σ x) (fX11_kept (σ 11 0) x) := by
  obtain ⟨h1, h2, -⟩ := h
  obtain ⟨K, hK, eK⟩ := h2.2.1.2.2.1
  have e1 : σ 7 0 0 4 = nI K := by rw [← tr16 (σ 7 0), h2.1.1 _ ok16, eK]
  unfold fX10_kept fX11_kept SIR
  rw [ab_l (x := 16) (n := 59) (by decide) (by decide), show (16 : Int32).toNatClampNeg = 16 from rfl]
  rcases kept2 (sc := σ 7 0) (rm := σ 11 0 14) (by omega) e1 eK x with ⟨i, hi, rfl, a1, a2⟩ | ⟨a1, a2⟩
  · rw [a1, a2, bd_e, bd_e, if_neg i10, if_neg i10, ab_e (by omega) (by omega), ix17, ab_e (by omega) (by omega), nI_clamp (by omega), nI_clamp (by omega)]
    refine ⟨_, rfl, ?_⟩
    rw [← tr17 (by omega) (σ 7 0), h2.1.2 i (by omega) (by rw [eK]; exact nI_lt hi (by omega))]
  · rw [a1, a2, bd_e, bd_e, if_pos i00, if_pos i00]
    exact ⟨_, rfl, rfl⟩
theorem le_lt {x : Int32} {n : Nat} (hn : n + 1 < 2 ^ 31) : x ≤ nI n ↔ x < nI (n + 1) := by
  rw [Int32.le_iff_toInt_le, Int32.lt_iff_toInt_lt, nI_toInt (by omega), nI_toInt (by omega)]
  omega
/-- a number in 0 .. c, or not -/
theorem in2 {c : Nat} (hc : c + 1 < 2 ^ 31) {b : Int64} (hb : b = (nI c).toInt64) (x : Int32) : (∃ k, k ≤ c ∧ x = nI k ∧ ¬ x < 0 ∧ x ≤ nI c ∧ x < nI (c + 1) ∧ fX11_in x.toInt64 (0 : Int64) b = some 1) ∨ (fX11_in x.toInt64 (0 : Int64) b = some 0 ∧ (x < 0 ∨ (¬ x < 0 ∧ ¬ x ≤ nI c ∧ ¬ x < nI (c + 1)))) := by
  rw [hb, m_in0]
  by_cases h0 : 0 ≤ x
  · by_cases h1 : x < nI (c + 1)
    · obtain ⟨k, hk, he⟩ := of_range (by omega) h0 h1
      have h2 := (le_lt (x := x) (n := c) hc).mpr h1
      exact Or.inl ⟨k, by omega, he, Int32.not_lt.mpr h0, h2, h1, by rw [if_pos ⟨h0, h2⟩]⟩
    · have h2 : ¬ x ≤ nI c := fun e => h1 ((le_lt hc).mp e)
      exact Or.inr ⟨by rw [if_neg (fun e => h2 e.2)], Or.inr ⟨Int32.not_lt.mpr h0, h2, h1⟩⟩
  · exact Or.inr ⟨by rw [if_neg (fun e => h0 e.1)], Or.inl (Int32.not_le.mp h0)⟩
theorem s_code {σ : Mem} (x y : Int32) : SIR (fX10_code σ x y) (fX11_code x y) := by
  unfold fX10_code fX11_code SIR
  rcases in2 (c := 255) (by omega) (b := 255) rfl x with ⟨k, hk, he, n0, n1, n2, e⟩ | ⟨e, n0 | ⟨n0, n1, n2⟩⟩
  · rw [if_neg n0, if_pos (show x < 256 from n2), e, bd_e, if_neg i10]
    rcases in2 (c := 9999) (by omega) (b := 9999) rfl y with ⟨k, hk, he, m0, m1, m2, e⟩ | ⟨e, m0 | ⟨m0, m1, m2⟩⟩
    · rw [if_neg m0, if_pos (show y < 10000 from m2), e, bd_e, if_neg i10]
      exact ⟨_, rfl, rfl⟩
    · rw [if_pos m0, e, bd_e, if_pos i00]
      exact ⟨_, rfl, rfl⟩
    · rw [if_neg m0, if_neg (show ¬ y < 10000 from m2), e, bd_e, if_pos i00]
      exact ⟨_, rfl, rfl⟩
  · rw [if_pos n0, e, bd_e, if_pos i00]
    exact ⟨_, rfl, rfl⟩
  · rw [if_neg n0, if_neg (show ¬ x < 256 from n2), e, bd_e, if_pos i00]
    exact ⟨_, rfl, rfl⟩
theorem quiet2 (σ : Mem) (x y : Int32) : ∀ (n : Nat) (v : Int64) (z : Int32), fX10_quiet_30 n σ x y v z = fX11_quiet_34 n x y v z := by
  intro n
  induction n with
  | zero => intro v z; rfl
  | succ n ih =>
    intro v z
    unfold fX10_quiet_30 fX11_quiet_34
    simp only [lt_e, ih]
theorem quiet_some (x y : Int32) {k : Nat} (hk : k ≤ 60) (hx : x = nI k) : ∀ (n fu j : Nat) (v : Int64), j + n = k → n + 1 ≤ fu → ∃ r, fX11_quiet_34 fu x y v (nI j) = some r := by
  intro n
  induction n with
  | zero =>
    intro fu j v h1 h2
    obtain ⟨fu, rfl⟩ : ∃ z, fu = z + 1 := ⟨fu - 1, by omega⟩
    unfold fX11_quiet_34
    rw [hx, if_neg (nI_nlt (by omega) (by omega))]
    exact ⟨_, rfl⟩
  | succ n ih =>
    intro fu j v h1 h2
    obtain ⟨fu, rfl⟩ : ∃ z, fu = z + 1 := ⟨fu - 1, by omega⟩
    unfold fX11_quiet_34
    rw [hx, if_pos (nI_lt (by omega) (by omega)), lt_e, lt_e, ix1, ← hx]
    exact ih fu (j + 1) _ (by omega) (by omega)
theorem s_quiet {σ : Mem} (x y : Int32) : SIR (fX10_quiet σ x y) (fX11_quiet x y) := by
  unfold fX10_quiet fX11_quiet SIR
  rcases in2 (c := 60) (by omega) (b := 60) rfl x with ⟨k, hk, he, n0, n1, n2, e⟩ | ⟨e, n0 | ⟨n0, n1, n2⟩⟩
  · rw [if_neg n0, if_pos (show x ≤ 60 from n1), e, bd_e, if_neg i10]
    rcases in2 (c := 100) (by omega) (b := 100) rfl y with ⟨k2, hk2, he2, m0, m1, m2, e⟩ | ⟨e, m0 | ⟨m0, m1, m2⟩⟩
    · rw [if_neg m0, if_pos (show y ≤ 100 from m1), e, bd_e, if_neg i10, quiet2]
      obtain ⟨r, hr⟩ := quiet_some x y hk he k 1000 0 1000000000 (by omega) (by omega)
      exact ⟨r, hr, hr⟩
    · rw [if_pos m0, e, bd_e, if_pos i00]
      exact ⟨_, rfl, rfl⟩
    · rw [if_neg m0, if_neg (show ¬ y ≤ 100 from m1), e, bd_e, if_pos i00]
      exact ⟨_, rfl, rfl⟩
  · rw [if_pos n0, e, bd_e, if_pos i00]
    exact ⟨_, rfl, rfl⟩
  · rw [if_neg n0, if_neg (show ¬ x ≤ 60 from n1), e, bd_e, if_pos i00]
    exact ⟨_, rfl, rfl⟩
theorem neg_msb (x : Int32) : x < 0 ↔ x.toBitVec.msb = true := by
  rw [Int32.lt_iff_toInt_lt, show (0 : Int32).toInt = 0 from rfl, BitVec.msb_eq_toInt, decide_eq_true_eq]
  rfl
theorem xor_neg (x y : Int32) : x ^^^ y < 0 ↔ ¬ (x < 0 ↔ y < 0) := by
  rw [neg_msb, neg_msb, neg_msb, Int32.toBitVec_xor, BitVec.msb_xor]
  cases x.toBitVec.msb <;> cases y.toBitVec.msb <;> simp
theorem fmod_tab {a b : Nat} (ha : a < 10000) (hb : b < 10000) : fJ9_floorMod_7cf53 (nI a - nI b) 10000 = some (jrem (nI a + 10000 - nI b) 10000) := by
  have e1 : nI a + 10000 - nI b = nI (a + 10000 - b) := by
    rw [show (10000 : Int32) = nI 10000 from rfl, nI_add, pk_sub (by omega)]
  unfold fJ9_floorMod_7cf53
  rw [nz_e (by decide), lt_e, e1, jrem_10000 (by omega)]
  by_cases h : b ≤ a
  · have e2 : nI a - nI b = nI (a - b) := pk_sub h
    rw [e2, jrem_10000 (by omega)]
    have hx : ¬ (nI (a - b) ^^^ 10000 < 0) := by
      rw [xor_neg]
      intro e
      exact e ⟨fun h => absurd h (nI_pos (by omega)), fun h => absurd h (by decide)⟩
    rw [if_neg hx]
    exact congrArg (fun z => some (nI z)) (by omega)
  · have ti : (nI a - nI b).toInt = (a : Int) - b := pk_sub_toInt (by omega) (by omega)
    have hneg : nI a - nI b < 0 := by
      rw [Int32.lt_iff_toInt_lt, ti, show (0 : Int32).toInt = 0 from rfl]
      omega
    have hdiv : (nI a - nI b) / 10000 = 0 := by
      apply Int32.toInt_inj.mp
      rw [Int32.toInt_div, ti, show (10000 : Int32).toInt = 10000 from rfl, show (0 : Int32).toInt = 0 from rfl]
      rw [show (a : Int) - b = -((b - a : Nat) : Int) from by omega, Int.neg_tdiv, Int.tdiv_eq_ediv_of_nonneg (by omega), Int.ediv_eq_zero_of_lt (by omega) (by omega)]
      rfl
    have hj : jrem (nI a - nI b) 10000 = nI a - nI b := by
      unfold jrem
      rw [hdiv, Int32.zero_mul, Int32.sub_zero]
    have hx : nI a - nI b ^^^ 10000 < 0 := by
      rw [xor_neg]
      intro e
      exact absurd (e.mp hneg) (by decide)
    have hne : ¬ nI a - nI b = 0 := by
      intro e
      rw [e] at ti
      rw [show (0 : Int32).toInt = 0 from rfl] at ti
      omega
    rw [hj, if_pos hx, if_neg hne]
    have : nI a - nI b + 10000 = nI (a + 10000 - b) := by
      rw [← e1, Int32.sub_eq_add_neg, Int32.sub_eq_add_neg, Int32.add_assoc, Int32.add_assoc, Int32.add_comm (-nI b)]
    rw [this]
    exact congrArg (fun z => some (nI z)) (by omega)
theorem s_ahead {G Fb : Nat} {σ : Mem} (h : INV G Fb σ) (x y : Int32) : SIR (fX10_ahead σ x y) (fX11_ahead (σ 11 0) x y) := by
  obtain ⟨h1, h2, -⟩ := h
  have hG := h1.1.2.2.1
  have hF := h1.1.2.2.2.1
  unfold fX10_ahead fX11_ahead SIR
  rcases known2 h1 x y with ⟨g, f, hg, hf, rfl, rfl, a1, a2, a3⟩ | ⟨a1, a2⟩
  · rw [a1, a2, bd_e, bd_e, if_neg i10, if_neg i10, a3, bd_e, if_neg i10, ab_e (by omega) (by omega), c_last _ (by omega) (by omega), bd_e, nI_clamp (by omega), ← tr5 (by omega) (σ 7 0), h2.1.1 _ (ok38 hF (by omega) hf), h2.1.1 _ (ok5 hF hf)]
    obtain ⟨a, ha, ea⟩ := h2.2.1.2.2.2.2.2.2.1 f hf
    obtain ⟨b, hb, eb⟩ := h2.2.1.2.2.2.2.2.2.2.2.1 g (by omega) f hf
    unfold fX11_aheadOf
    rw [ix38, ix5a, ab_e (by omega) (by omega), ab_e (by omega) (by omega), nI_clamp (by omega), nI_clamp (by omega), bd_e, ea, eb, fmod_tab ha hb, bd_e]
    exact ⟨_, rfl, rfl⟩
  · rw [a1, bd_e, if_pos i00]
    rcases a2 with a2 | ⟨a2, a3⟩
    · rw [a2, bd_e, if_pos i00]
      exact ⟨_, rfl, rfl⟩
    · rw [a2, bd_e, if_neg i10, a3, bd_e, if_pos i00]
      exact ⟨_, rfl, rfl⟩
