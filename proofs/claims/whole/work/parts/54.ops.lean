theorem act {G Fb : Nat} {σ : Mem} (h : INV G Fb σ) : ∃ (σ' : Mem) (mo' : Grp), fX3_remember σ = some σ' ∧ fX11_remember (σ 11 0) = some mo' ∧ σ' 7 0 = σ 7 0 ∧ σ' 4 0 = σ 4 0 ∧ σ' 11 0 = σ 11 0 ∧ mo' 14 = σ 11 0 14 ∧ Pn G Fb (σ 4 0) mo' ∧ INV G Fb (upM σ' 11 0 mo') ∧ ∀ (nw : Grp) (rm : Row), SS G Fb (toRow nw) rm → INV G Fb (upM (upM σ' 7 0 nw) 11 0 (wa mo' 14 rm)) := by
  obtain ⟨σ', mo', e1, e2, hI, hs, hm, hm0⟩ := INV_rem h
  refine ⟨σ', mo', e1, e2, hs 7 0 (by omega) (by omega), hs 4 0 (by omega) (by omega), hs 11 0 (by omega) (by omega), hm 14 (by omega) (by omega), ?_, hI, ?_⟩
  · have := hI.1
    have e4 : upM σ' 11 0 mo' 4 0 = σ 4 0 := hs 4 0 (by omega) (by omega)
    rw [e4] at this
    exact this
  · intro nw rm hS
    have := INV_now hI hS
    rw [upM_mid _ _ _ _ (by omega)] at this
    exact this
/-- a call that both refuse alike -/
theorem SIM_no {ox : Option (Int32 × Mem)} {om : Option (Int32 × Grp)} {σ : Mem} {G Fb : Nat} (h : INV G Fb σ) {r : Int32} (h1 : ox = some (r, σ)) (h2 : om = some (r, σ 11 0)) : SIM (fun _ => ox) (fun _ => om) σ :=
  ⟨r, σ, σ 11 0, h1, rfl, h2, G, Fb, by rw [upM_self]; exact h⟩
def SW (ox : Option (Int32 × Mem)) (om : Option (Int32 × Grp)) (σ : Mem) : Prop :=
  ∃ (r : Int32) (σ1 : Mem) (mo1 : Grp), ox = some (r, σ1) ∧ σ1 11 0 = σ 11 0 ∧ om = some (r, mo1) ∧ ∃ G Fb, INV G Fb (upM σ1 11 0 mo1)
theorem SW_no {ox : Option (Int32 × Mem)} {om : Option (Int32 × Grp)} {σ : Mem} {G Fb : Nat} (h : INV G Fb σ) {r : Int32} (h1 : ox = some (r, σ)) (h2 : om = some (r, σ 11 0)) : SW ox om σ :=
  ⟨r, σ, σ 11 0, h1, rfl, h2, G, Fb, by rw [upM_self]; exact h⟩
theorem SS_upd {G : Nat} {Fb : Nat} {rc rm : Row} (hS : SS G Fb rc rm) {i : Nat} {v : Int32} (hi : ¬ i = 16) (hi2 : ¬ (17 ≤ i ∧ i < 25)) (h58 : ¬ i = 58) (hR : RI G Fb (upd rm i v)) (hW : WC G (upd rm i v)) : SS G Fb (upd rc i v) (upd rm i v) :=
  ⟨RR_upd hS.1 hi hi2 v, hR, hW, by rw [upd_ne (fun e => h58 e.symm), upd_ne (fun e => h58 e.symm)]; exact hS.2.2.2.1, by rw [upd_ne (fun e => h58 e.symm)]; exact hS.2.2.2.2⟩
theorem w_fill {G Fb : Nat} {σ : Mem} (h : INV G Fb σ) (x : Int32) : SW (fX10_fill σ x) (fX11_fill (σ 11 0) x) σ := by
  have hF := h.1.1.2.2.2.1
  unfold fX10_fill fX11_fill
  rcases fobs2 h.1 x with ⟨f, hf, rfl, a1, a2⟩ | ⟨a1, a2⟩
  · obtain ⟨σ', mo', e1, e2, s7, s4, s11, m14, hP, hI, hN⟩ := act h
    rw [a1, a2, bd_e, bd_e, if_neg i10, if_neg i10, e1, e2, bd_e, bd_e]
    simp (disch := omega) only [ix10, ab_e, nI_clamp, lt_e]
    refine ⟨_, _, _, rfl, ?_, ?_, G, Fb, hN (wr (σ' 7 0) 9 f 60) (upd (mo' 14) (10 + f) 60) ?_⟩
    · exact s11
    · rw [s7, m14, ← tr10 (by omega) (σ 7 0), h.2.1.1.1 _ (ok10 hF hf)]
      rw [wr_wa, m14]
    · rw [tw10 (by omega), s7, m14]
      exact SS_upd h.2.1 (by omega) (by omega) (by omega) (RI_10 hF h.2.1.2.1 (by omega) ⟨60, by omega, rfl⟩) (WC_upd h.2.1.2.2.1 (by omega))
  · exact SW_no h (by rw [a1, bd_e, if_pos i00]) (by rw [a2, bd_e, if_pos i00])
theorem place2 (x : Int32) : (∃ k, k < 10 ∧ x = nI k ∧ fX10_isPlace x = some 1 ∧ fX11_in x.toInt64 (0 : Int64) (9 : Int64) = some 1) ∨ (fX10_isPlace x = some 0 ∧ fX11_in x.toInt64 (0 : Int64) (9 : Int64) = some 0) := by
  unfold fX10_isPlace
  rcases in2 (c := 9) (by omega) (b := 9) rfl x with ⟨k, hk, he, n0, n1, n2, e⟩ | ⟨e, n0 | ⟨n0, n1, n2⟩⟩
  · exact Or.inl ⟨k, by omega, he, by rw [if_neg n0, if_pos (show x < 10 from n2)], e⟩
  · exact Or.inr ⟨by rw [if_pos n0], e⟩
  · exact Or.inr ⟨by rw [if_neg n0, if_neg (show ¬ x < 10 from n2)], e⟩
theorem w_step {G Fb : Nat} {σ : Mem} (h : INV G Fb σ) (x y : Int32) : SW (fX10_step σ x y) (fX11_step (σ 11 0) x y) σ := by
  have hF := h.1.1.2.2.2.1
  unfold fX10_step fX11_step
  rcases fobs2 h.1 x with ⟨f, hf, rfl, a1, a2⟩ | ⟨a1, a2⟩
  · rw [a1, a2, bd_e, bd_e, if_neg i10, if_neg i10]
    rcases place2 y with ⟨k, hk, rfl, b1, b2⟩ | ⟨b1, b2⟩
    · rw [b1, b2, bd_e, bd_e, if_neg i10, if_neg i10]
      have e0 : σ 7 0 7 f = σ 11 0 14 f := by rw [← tr0 (by omega) (σ 7 0), h.2.1.1.1 _ (ok0 hF hf)]
      simp (disch := omega) only [ab_e, nI_clamp, lt_e]
      rw [e0]
      by_cases hne : σ 11 0 14 f = nI k
      · rw [if_pos hne, if_pos hne]
        exact SW_no h rfl rfl
      · obtain ⟨σ', mo', e1, e2, s7, s4, s11, m14, hP, hI, hN⟩ := act h
        rw [if_neg hne, if_neg hne, e1, e2, bd_e, bd_e]
        refine ⟨_, _, _, rfl, ?_, ?_, G, Fb, hN (wr (σ' 7 0) 7 f (nI k)) (upd (mo' 14) f (nI k)) ?_⟩
        · exact s11
        · rw [m14]
          rw [wr_wa, m14]
        · rw [tw0 (by omega), s7, m14]
          exact SS_upd h.2.1 (by omega) (by omega) (by omega) (RI_0 hF h.2.1.2.1 (by omega) ⟨k, hk, rfl⟩) (WC_upd h.2.1.2.2.1 (by omega))
    · exact SW_no h (by rw [b1, bd_e, if_pos i00]) (by rw [b2, bd_e, if_pos i00])
  · exact SW_no h (by rw [a1, bd_e, if_pos i00]) (by rw [a2, bd_e, if_pos i00])
theorem w_earTo {G Fb : Nat} {σ : Mem} (h : INV G Fb σ) (y : Int32) : SW (fX10_earTo σ y) (fX11_earTo (σ 11 0) y) σ := by
  have hF := h.1.1.2.2.2.1
  unfold fX10_earTo fX11_earTo
  rcases place2 y with ⟨k, hk, rfl, b1, b2⟩ | ⟨b1, b2⟩
  · rw [b1, b2, bd_e, bd_e, if_neg i10, if_neg i10]
    have e0 : σ 7 0 0 2 = σ 11 0 14 15 := by rw [← tr15 (σ 7 0), h.2.1.1.1 _ ok15]
    simp only [ab_l (x := 15) (n := 59) (by decide) (by decide), show (15 : Int32).toNatClampNeg = 15 from rfl, lt_e]
    rw [e0, h.1.2.2.2.1]
    by_cases h0 : σ 11 0 0 0 = 0
    · rw [if_pos h0, if_pos h0]
      exact SW_no h rfl rfl
    · rw [if_neg h0, if_neg h0]
      by_cases hne : σ 11 0 14 15 = nI k
      · rw [if_pos hne, if_pos hne]
        exact SW_no h rfl rfl
      · obtain ⟨σ', mo', e1, e2, s7, s4, s11, m14, hP, hI, hN⟩ := act h
        rw [if_neg hne, if_neg hne, e1, e2, bd_e, bd_e]
        refine ⟨_, _, _, rfl, ?_, ?_, G, Fb, hN (wr (σ' 7 0) 0 2 (nI k)) (upd (mo' 14) 15 (nI k)) ?_⟩
        · exact s11
        · rw [m14]
          rw [wr_wa, m14]
        · rw [tw15, s7, m14]
          exact SS_upd h.2.1 (by omega) (by omega) (by omega) (RI_15 hF h.2.1.2.1 ⟨k, hk, rfl⟩) (WC_upd h.2.1.2.2.1 (by omega))
  · exact SW_no h (by rw [b1, bd_e, if_pos i00]) (by rw [b2, bd_e, if_pos i00])
theorem xor16 : ∀ z, z < 16 → ∀ g, g < 4 → ∃ k, k < 16 ∧ nI z ^^^ ((1 : Int32) <<< (nI g &&& 31)) = nI k := by decide +kernel
theorem noise_in {G : Nat} {r : Row} {Fb g : Nat} (h : RI G Fb r) (hg : g < 4) : inN (r 25 ^^^ ((1 : Int32) <<< (nI g &&& 31))) 16 := by
  obtain ⟨z, hz, e⟩ := h.2.2.2.1
  rw [e]
  exact xor16 z hz g hg
theorem w_noise {G Fb : Nat} {σ : Mem} (h : INV G Fb σ) (x y : Int32) : SW (fX10_noise σ x y) (fX11_noise (σ 11 0) x y) σ := by
  have hF := h.1.1.2.2.2.1
  have hG := h.1.1.2.2.1
  unfold fX10_noise fX11_noise
  rcases gates2 h.1 x with ⟨g, hg, rfl, a1, a2⟩ | ⟨a1, a2⟩
  · rw [a1, a2, bd_e, bd_e, if_neg i10, if_neg i10]
    have e0 := h.2.1.1.1 25 ok25
    simp only [ab_l (x := 25) (n := 59) (by decide) (by decide), show (25 : Int32).toNatClampNeg = 25 from rfl, lt_e]
    rw [c_noisy, m_has, bd_e, bd_e, e0]
    by_cases hne : (if (σ 11 0 14 25 >>> (nI g &&& 31)) &&& 1 = 1 then (1 : Int32) else 0) = y
    · rw [if_pos hne, if_pos hne]
      exact SW_no h rfl rfl
    · obtain ⟨σ', mo', e1, e2, s7, s4, s11, m14, hP, hI, hN⟩ := act h
      rw [if_neg hne, if_neg hne, e1, e2, bd_e, bd_e]
      unfold fX7_turnNoise
      simp only [lt_e, bd_e]
      have e3 : σ' 7 0 0 3 = σ 11 0 14 25 := by rw [s7, ← tr25 (σ 7 0), e0]
      rw [m14]
      refine ⟨_, _, _, rfl, ?_, ?_, G, Fb, hN (wr (σ' 7 0) 0 3 (σ' 7 0 0 3 ^^^ ((1 : Int32) <<< (nI g &&& 31)))) (upd (mo' 14) 25 (σ 11 0 14 25 ^^^ ((1 : Int32) <<< (nI g &&& 31)))) ?_⟩
      · exact s11
      · rw [e3]
        rfl
      · rw [tw25, e3, s7, m14]
        exact SS_upd h.2.1 (by omega) (by omega) (by omega) (RI_25 hF h.2.1.2.1 (noise_in h.2.1.2.1 (by omega))) (WC_upd h.2.1.2.2.1 (by omega))
  · exact SW_no h (by rw [a1, bd_e, if_pos i00]) (by rw [a2, bd_e, if_pos i00])
theorem w_teach {G Fb : Nat} {σ : Mem} (h : INV G Fb σ) (x y : Int32) : SW (fX10_teach σ x y) (fX11_teach (σ 11 0) x y) σ := by
  have hF := h.1.1.2.2.2.1
  have hG := h.1.1.2.2.1
  unfold fX10_teach fX11_teach
  rcases known2 h.1 x y with ⟨g, f, hg, hf, rfl, rfl, a1, a2, a3⟩ | ⟨a1, a2⟩
  · obtain ⟨σ', mo', e1, e2, s7, s4, s11, m14, hP, hI, hN⟩ := act h
    rw [a1, a2, bd_e, bd_e, if_neg i10, if_neg i10, a3, bd_e, if_neg i10, e1, e2, bd_e, bd_e]
    unfold fX7_taught
    simp (disch := omega) only [ix38, ix5, ix5a, ab_e, nI_clamp, lt_e, bd_e]
    have e0 : σ' 7 0 8 f = σ 11 0 14 (5 + f) := by rw [s7, ← tr5 (by omega) (σ 7 0), h.2.1.1.1 _ (ok5 hF hf)]
    have hlast : upM σ' 7 0 (wr (σ' 7 0) 13 (5 * g + f) (σ' 7 0 8 f)) 7 0 = wr (σ' 7 0) 13 (5 * g + f) (σ' 7 0 8 f) := upM_same _ _ _ _
    rw [hlast, c_last _ (by omega) (by omega), bd_e, tw38 (by omega) (by omega), upd_at, e0, m14]
    refine ⟨_, _, _, rfl, ?_, ?_, G, Fb, hN (wr (σ' 7 0) 13 (5 * g + f) (σ 11 0 14 (5 + f))) (upd (mo' 14) (38 + 5 * g + f) (σ 11 0 14 (5 + f))) ?_⟩
    · exact s11
    · rw [wr_wa, wa_row, m14, upd_ne (by omega)]
    · rw [tw38 (by omega) (by omega), s7, m14]
      exact SS_upd h.2.1 (by omega) (by omega) (by omega) (RI_38 hF h.2.1.2.1 (by omega) (by omega) (h.2.1.2.1.2.2.2.2.2.2.1 f hf)) (WC_upd h.2.1.2.2.1 (by omega))
  · refine SW_no h (r := -1000000001) (by rw [a1, bd_e, if_pos i00]) ?_
    rcases a2 with a2 | ⟨a2, a3⟩
    · rw [a2, bd_e, if_pos i00]
    · rw [a2, bd_e, if_neg i10, a3, bd_e, if_pos i00]
