theorem w_street {G Fb : Nat} {σ : Mem} (h : INV G Fb σ) : SW (fX10_street σ) (fX11_street (σ 11 0)) σ := by
  obtain ⟨h1, h2, h3, h4, h5, h6, h7, h8, h9⟩ := h
  unfold fX10_street
  have eclr : ∀ tx : Grp, fX9_clear tx = some (wr tx 0 1 0) := fun _ => rfl
  rcases read2 (rd := σ 5 0) (df := σ 4 1) h3 with ⟨n, rd', z', df', M', y', r1, r2, r3⟩ | ⟨n, e, p, rd', z', df', M', y', f1, f2, f3, f4, f5, f6, f7, f8, f9⟩
  · obtain ⟨_, hC, hz, hz3, hz4, h16, h17, h18, hD, hM, hY⟩ := r3
    obtain ⟨g, f, dg, df5, d3, d22, d4, d26, d0, dE, dG, dF⟩ := hD
    have y20 : y' 20 = 0 ∨ y' 20 = 1 := by
      rcases dE with a | a
      · exact Or.inl a.1
      · exact Or.inr a.1
    obtain ⟨PL, p1, p2, p3, p4⟩ := c_plan (σ 4 0) df' (by rw [d0]; exact y20)
    obtain ⟨SC, s1, s2, s3, s4, s5, s6, s7⟩ := c_begin (σ 7 0) PL
    obtain ⟨SE, c1, c2, c3⟩ := c_clear (σ 8 0)
    have eg7 : wr (wa M' 0 y') 0 16 0 = wa M' 0 (upd y' 16 0) := wa_wr0 _ _ _ _
    obtain ⟨mo', r, m1, m2, m3, m4, m5, m6, m7, m8, m9, m10, m11, m12⟩ := m_take (wa M' 0 (upd y' 16 0)) dg df5 (by rw [wa_row, upd_ne (by omega)]; exact y20) (by rw [wa_row, upd_ne (by omega)]; exact d22) (by rw [wa_row, upd_ne (by omega)]; exact d26)
    have e22 : wa M' 0 (upd y' 16 0) 22 = M' 22 := rfl
    have e20 : wa M' 0 (upd y' 16 0) 0 20 = y' 20 := by rw [wa_row, upd_ne (by omega)]
    rw [e20, e22] at m8 m3
    have eA : (if y' 20 = 0 then 0 else M' 22 0) = df' 0 1 ∧ (if y' 20 = 0 then 0 else M' 22 1) = df' 0 2 ∧ inN (df' 0 1) 10 ∧ inN (df' 0 2) 10 := by
      rcases dE with ⟨q1, q2, q3⟩ | ⟨q1, q2, q3, q4, q5⟩
      · rw [if_pos q1, if_pos q1, q2, q3]
        exact ⟨rfl, rfl, ⟨0, by omega, rfl⟩, ⟨0, by omega, rfl⟩⟩
      · have hn : ¬ y' 20 = 0 := by rw [q1]; decide
        rw [if_neg hn, if_neg hn, q2, q3]
        exact ⟨rfl, rfl, q4, q5⟩
    rw [eA.1] at m8
    rw [eA.1, eA.2.1, wa_row] at m3
    -- the class
    rw [r1, bd_e]
    dsimp only
    rw [lt_e, eclr, bd_e, lt_e, lt_e]
    have q5 : ∀ a b c d : Grp, upM (upM (upM (upM σ 5 0 a) 4 1 b) 9 0 c) 10 0 d 5 0 = a := fun _ _ _ _ => rfl
    have q40 : ∀ a b c d : Grp, upM (upM (upM (upM σ 5 0 a) 4 1 b) 9 0 c) 10 0 d 4 0 = σ 4 0 := fun _ _ _ _ => rfl
    have q41 : ∀ a b c d : Grp, upM (upM (upM (upM σ 5 0 a) 4 1 b) 9 0 c) 10 0 d 4 1 = b := fun _ _ _ _ => rfl
    rw [q5, wa_row, if_pos hz3, q40, q41, p1, bd_e, lt_e]
    have q7 : ∀ a b c d e : Grp, upM (upM (upM (upM (upM σ 5 0 a) 4 1 b) 9 0 c) 10 0 d) 4 0 e 7 0 = σ 7 0 := fun _ _ _ _ _ => rfl
    have q4 : ∀ a b c d e : Grp, upM (upM (upM (upM (upM σ 5 0 a) 4 1 b) 9 0 c) 10 0 d) 4 0 e 4 0 = e := fun _ _ _ _ _ => rfl
    rw [q7, q4, s1, bd_e, lt_e]
    unfold fX3_forget
    rw [lt_e, bd_e, c_forget2, bd_e]
    have q8 : ∀ a b c d e f g i j : Grp, upM (upM (upM (upM (upM (upM (upM (upM (upM σ 5 0 a) 4 1 b) 9 0 c) 10 0 d) 4 0 e) 7 0 f) 3 0 g) 2 0 i) 2 0 j 8 0 = σ 8 0 := fun _ _ _ _ _ _ _ _ _ => rfl
    rw [q8, c1, bd_e, lt_e]
    unfold fX0_clear
    rw [lt_e, bd_e, lt_e]
    -- the model
    rw [r2]
    unfold fX11_street_46
    rw [lt_e, eg7, if_pos (show (0 : Int32) ≤ 0 by decide), m1, bd_e, lt_e, lt_e, lt_e, ab_l (by decide) (by decide), lt_e, ab_l (by decide) (by decide), lt_e]
    have hm0 : ∀ i, ¬ (17 ≤ i ∧ i ≤ 26) → ¬ i = 16 → ¬ i = 0 → ¬ i = 1 → ¬ i = 2 → ¬ i = 3 → ¬ i = 7 → mo' 0 i = σ 11 0 0 i := by
      intro i a1 a2 a3 a4 a5 a6 a7
      rw [m3, upd_ne a7, upd_ne a6, upd_ne a5, upd_ne a4, upd_ne a3, upd_ne a2]
      exact hY i a1
    have v7 : wr (wr (wr (wr (wr mo' 0 37 0) 0 41 0) 0 32 0) 46 (0 : Int32).toNatClampNeg 0) 46 (1 : Int32).toNatClampNeg 0 0 7 = nI f := by
      show upd (upd (upd (mo' 0) 37 0) 41 0) 32 0 7 = nI f
      rw [upd_ne (by omega), upd_ne (by omega), upd_ne (by omega), m3, upd_at]
    rw [v7]
    refine ⟨_, _, wr (wr (wr (wr (wr mo' 0 37 0) 0 41 0) 0 32 0) 46 (0 : Int32).toNatClampNeg 0) 46 (1 : Int32).toNatClampNeg 0, rfl, rfl, ?_, g, f, ?_⟩
    · have e4 : PL 0 4 = nI f := by rw [p2.2.2.2.2, d4]
      exact congrArg (fun v => some (v, wr (wr (wr (wr (wr mo' 0 37 0) 0 41 0) 0 32 0) 46 (0 : Int32).toNatClampNeg 0) 46 (1 : Int32).toNatClampNeg 0)) e4.symm
    -- what holds then
    have mm : ∀ i, ¬ i = 32 → ¬ i = 37 → ¬ i = 41 → wr (wr (wr (wr (wr mo' 0 37 0) 0 41 0) 0 32 0) 46 (0 : Int32).toNatClampNeg 0) 46 (1 : Int32).toNatClampNeg 0 0 i = mo' 0 i := by
      intro i a1 a2 a3
      show upd (upd (upd (mo' 0) 37 0) 41 0) 32 0 i = mo' 0 i
      rw [upd_ne a1, upd_ne a3, upd_ne a2]
    have mj : ∀ j, ¬ j = 0 → ¬ j = 46 → wr (wr (wr (wr (wr mo' 0 37 0) 0 41 0) 0 32 0) 46 (0 : Int32).toNatClampNeg 0) 46 (1 : Int32).toNatClampNeg 0 j = mo' j := by
      intro j a1 a2
      rw [wr_oth _ a2, wr_oth _ a2, wr_oth _ a1, wr_oth _ a1, wr_oth _ a1]
    generalize hMO : wr (wr (wr (wr (wr mo' 0 37 0) 0 41 0) 0 32 0) 46 (0 : Int32).toNatClampNeg 0) 46 (1 : Int32).toNatClampNeg 0 = MO at mm mj
    have x32 : MO 0 32 = 0 := by rw [← hMO]; rfl
    have x37 : MO 0 37 = 0 := by rw [← hMO]; rfl
    have x41 : MO 0 41 = 0 := by rw [← hMO]; rfl
    have x46 : MO 46 0 = 0 ∧ MO 46 1 = 0 := by rw [← hMO]; exact ⟨rfl, rfl⟩
    have g3 : MO 0 3 = nI g := by rw [mm 3 (by omega) (by omega) (by omega), m3, upd_ne (by omega), upd_at]
    have g7 : MO 0 7 = nI f := by rw [mm 7 (by omega) (by omega) (by omega), m3, upd_at]
    have g0 : MO 0 0 = y' 20 := by
      rw [mm 0 (by omega) (by omega) (by omega), m3, upd_ne (by omega), upd_ne (by omega), upd_ne (by omega), upd_ne (by omega), upd_at]
    have g2 : MO 0 2 = df' 0 2 := by rw [mm 2 (by omega) (by omega) (by omega), m3, upd_ne (by omega), upd_ne (by omega), upd_at]
    have gG : ∀ k, k < g → MO 5 k = M' 24 k ∧ MO 6 k = M' 25 k ∧ MO 7 k = M' 26 k := by
      intro k hk
      rw [mj 5 (by omega) (by omega), mj 6 (by omega) (by omega), mj 7 (by omega) (by omega)]
      exact m4 k hk
    have gF : ∀ k, k < f → MO 9 k = M' 28 k ∧ MO 11 k = M' 30 k ∧ MO 12 k = M' 31 k := by
      intro k hk
      rw [mj 9 (by omega) (by omega), mj 11 (by omega) (by omega), mj 12 (by omega) (by omega)]
      obtain ⟨t1, _, t3, t4, _⟩ := m5 k hk
      exact ⟨t1, t3, t4⟩
    have x14 : MO 14 = r := by rw [mj 14 (by omega) (by omega)]; exact m2
    have x17 : MO 0 17 = -1 := by
      rw [mm 17 (by omega) (by omega) (by omega), m3, upd_ne (by omega), upd_ne (by omega), upd_ne (by omega), upd_ne (by omega), upd_ne (by omega), upd_ne (by omega)]
      exact h17
    have x16 : MO 0 16 = 0 := by
      rw [mm 16 (by omega) (by omega) (by omega), m3, upd_ne (by omega), upd_ne (by omega), upd_ne (by omega), upd_ne (by omega), upd_ne (by omega), upd_at]
    have x14s : MO 0 14 = σ 11 0 0 14 := by
      rw [mm 14 (by omega) (by omega) (by omega)]
      exact hm0 14 (by omega) (by omega) (by omega) (by omega) (by omega) (by omega) (by omega)
    have hPIm : PI g f (MO 5) (MO 6) (MO 7) (MO 9) (MO 11) (MO 12) := by
      refine ⟨dg, df5, fun k hk => ?_, fun k hk => ?_⟩
      · obtain ⟨t1, t2, t3⟩ := gG k hk
        obtain ⟨_, _, _, u1, u2, u3, u4⟩ := dG k hk
        rw [t1, t2, t3]
        exact ⟨u1, u2, u3, u4⟩
      · obtain ⟨t1, t2, t3⟩ := gF k hk
        obtain ⟨_, _, _, _, _, u1, _, u3, u4, _⟩ := dF k hk
        rw [t1, t2, t3]
        exact ⟨u1, u3, u4⟩
    have hAG : AG g f (PL 6) (PL 7) (PL 8) (PL 9) (PL 11) (PL 12) (MO 5) (MO 6) (MO 7) (MO 9) (MO 11) (MO 12) := by
      refine ⟨fun k hk => ?_, fun k hk => ?_⟩
      · obtain ⟨t1, t2, t3⟩ := gG k hk
        obtain ⟨u1, u2, u3⟩ := p3 k (by omega)
        obtain ⟨w1, w2, w3, _⟩ := dG k hk
        exact ⟨by rw [u1, t1, w1], by rw [u2, t2, w2], by rw [u3, t3, w3]⟩
      · obtain ⟨t1, t2, t3⟩ := gF k hk
        obtain ⟨u1, _, u3, u4, _⟩ := p4 k (by omega)
        obtain ⟨w1, _, w3, w4, _⟩ := dF k hk
        exact ⟨by rw [u1, t1, w1], by rw [u3, t2, w3], by rw [u4, t3, w4]⟩
    have hPIc : PI g f (PL 6) (PL 7) (PL 8) (PL 9) (PL 11) (PL 12) := by
      refine ⟨dg, df5, fun k hk => ?_, fun k hk => ?_⟩
      · obtain ⟨t1, t2, t3⟩ := hAG.1 k hk
        rw [t1, t2, t3]
        exact hPIm.2.2.1 k hk
      · obtain ⟨t1, t2, t3⟩ := hAG.2 k hk
        rw [t1, t2, t3]
        exact hPIm.2.2.2 k hk
    have hPn : Pn g f PL MO := by
      refine ⟨⟨by rw [p2.2.2.2.1, d3], by rw [p2.2.2.2.2, d4], hPIc⟩, ⟨g3, g7, hPIm⟩, hAG, ?_, ?_, ?_, ?_⟩
      · rw [p2.1, d0, g0]
      · rw [g0]; exact y20
      · rw [p2.2.2.1, g2]
      · rw [g2]; exact eA.2.2.2
    have hSS : SS g f (toRow SC) r := by
      have e10 : ∀ k, k < f → toRow SC k = r k ∧ toRow SC (5 + k) = r (5 + k) ∧ toRow SC (10 + k) = r (10 + k) := by
        intro k hk
        obtain ⟨u1, u2, u3⟩ := s2 k (by omega)
        obtain ⟨w1, w2, w3⟩ := m7 k hk
        obtain ⟨_, v2, _, _, v5⟩ := p4 k (by omega)
        obtain ⟨_, x2, _, _, x5, _⟩ := dF k hk
        exact ⟨by rw [u1, w1, v2, x2]; rfl, by rw [u2, w2, v5, x5]; rfl, by rw [u3, w3]⟩
      have e38 : ∀ q, q < 4 → ∀ k, k < f → toRow SC (38 + 5 * q + k) = r (38 + 5 * q + k) := by
        intro q hq k hk
        obtain ⟨_, _, _, u4⟩ := s7 q hq
        obtain ⟨_, _, _, w4⟩ := m12 q hq
        obtain ⟨_, _, _, _, v5⟩ := p4 k (by omega)
        obtain ⟨_, _, _, _, x5, _⟩ := dF k hk
        rw [u4 k (by omega), w4 k hk, v5, x5]; rfl
      refine ⟨⟨fun i hi => ?_, fun i _ hlt => ?_⟩, ?_, ?_, ?_, ?_⟩
      · obtain ⟨o1, o2, o3, o4, o5, o6, _⟩ := hi
        by_cases i5 : i < 5
        · exact (e10 i (o2 i5)).1
        by_cases i10' : i < 10
        · have := (e10 (i - 5) (o3 (by omega) i10')).2.1
          rw [show 5 + (i - 5) = i from by omega] at this
          exact this
        by_cases i15 : i < 15
        · have := (e10 (i - 10) (o4 (by omega) i15)).2.2
          rw [show 10 + (i - 10) = i from by omega] at this
          exact this
        by_cases j15 : i = 15
        · rw [j15, s3, m8, p2.2.1]
        by_cases j16 : i = 16
        · rw [j16, s4, m9]
        by_cases j25 : i = 25
        · rw [j25, s5, m10]
        have : 26 ≤ i := by omega
        by_cases i30 : i < 30
        · have a := (s7 (i - 26) (by omega)).1
          have b := (m12 (i - 26) (by omega)).1
          rw [show 26 + (i - 26) = i from by omega] at a b
          rw [a, b]
        by_cases i34 : i < 34
        · have a := (s7 (i - 30) (by omega)).2.1
          have b := (m12 (i - 30) (by omega)).2.1
          rw [show 30 + (i - 30) = i from by omega] at a b
          rw [a, b]
        by_cases i38 : i < 38
        · have a := (s7 (i - 34) (by omega)).2.2.1
          have b := (m12 (i - 34) (by omega)).2.2.1
          rw [show 34 + (i - 34) = i from by omega] at a b
          rw [a, b]
        · have := e38 ((i - 38) / 5) (by omega) ((i - 38) % 5) (o6 (by omega) (by omega))
          rw [show 38 + 5 * ((i - 38) / 5) + (i - 38) % 5 = i from by omega] at this
          exact this
      · rw [m9] at hlt
        exact absurd hlt (nI_pos (by omega))
      · refine ⟨fun q hq => ?_, fun q hq => Or.inl (m12 q (by omega)).2.1, ⟨0, by omega, m9⟩, ⟨0, by omega, m10⟩, fun k hk => ?_, ?_, fun k hk => ?_, fun k hk => ?_, fun q hq k hk => ?_, trivial⟩
        · rw [(m12 q hq).1]; exact ⟨0, by omega, rfl⟩
        · rw [(m7 k hk).1]
          exact (dF k hk).2.2.2.2.2.2.1
        · rw [m8]; exact eA.2.2.1
        · rw [(m7 k hk).2.1]
          obtain ⟨v, v1, v2⟩ := (dF k hk).2.2.2.2.2.2.2.2.2
          exact ⟨v, by omega, v2⟩
        · rw [(m7 k hk).2.2]; exact ⟨60, by omega, rfl⟩
        · rw [(m12 q hq).2.2.2 k hk]
          obtain ⟨v, v1, v2⟩ := (dF k hk).2.2.2.2.2.2.2.2.2
          exact ⟨v, by omega, v2⟩
      · exact fun q hq => Or.inl (m12 q (by omega)).2.1
      · rw [s6, m11]
      · rw [m11]; exact ⟨0, by omega, rfl⟩
    obtain ⟨ps, nx, pa1, pa2, pa3, pa4, pa5, pa6⟩ := h5
    refine ⟨hPn, ?_, ?_, ?_, ?_, ?_, ?_, ?_, ?_⟩
    · show SS g f (toRow SC) (MO 14)
      rw [x14]; exact hSS
    · exact ⟨0, by omega, rfl, x16, fun i hi => by omega⟩
    · show z' 4 = MO 0 17
      rw [hz4, x17]
    · exact ⟨0, nx, by omega, pa2, rfl, pa4, x32, fun j hj => by omega⟩
    · intro i hi
      have hi2 : i = 0 ∨ i = 1 := by omega
      rcases hi2 with rfl | rfl
      · show (0 : Int32) = MO 46 0 ∧ (MO 46 0 = 0 ∨ MO 46 0 = 1) ∧ (MO 46 0 = 1 → _)
        rw [x46.1]
        exact ⟨rfl, Or.inl rfl, fun e => absurd e (by decide)⟩
      · show (0 : Int32) = MO 46 1 ∧ (MO 46 1 = 0 ∨ MO 46 1 = 1) ∧ (MO 46 1 = 1 → _)
        rw [x46.2]
        exact ⟨rfl, Or.inl rfl, fun e => absurd e (by decide)⟩
    · exact ⟨0, by omega, c3, x37, fun s hs => ⟨Or.inr (c2 s hs), fun _ k hk => by omega, fun _ => c2 s hs⟩⟩
    · exact ⟨0, by omega, rfl, x41, fun k hk => by omega⟩
    · show Dw (σ 1 0) MO
      unfold Dw
      rw [x14s]
      exact h9
  · rw [f3, bd_e]
    dsimp only
    rw [lt_e, eclr, bd_e, lt_e, lt_e]
    have q5 : ∀ a b c d : Grp, upM (upM (upM (upM σ 5 0 a) 4 1 b) 9 0 c) 10 0 d 5 0 = a := fun _ _ _ _ => rfl
    rw [q5, wa_row, f4, if_neg (e12 f1).1, f6]
    unfold fX11_street_46
    rw [lt_e, wa_wr0, if_neg (e12 f1).2]
    refine ⟨_, _, _, rfl, rfl, rfl, G, Fb, ?_⟩
    have y0 : ∀ i, ¬ (17 ≤ i ∧ i ≤ 26) → ¬ i = 16 → wa M' 0 (upd y' 16 0) 0 i = σ 11 0 0 i := fun i a b => by rw [wa_row, upd_ne b]; exact f9 i a
    have yj : ∀ j, ¬ j = 0 → ¬ (22 ≤ j ∧ j ≤ 32) → wa M' 0 (upd y' 16 0) j = σ 11 0 j := fun j a b => by rw [wa_oth _ a]; exact f8 j a b
    have y17 : wa M' 0 (upd y' 16 0) 0 17 = nI p := by rw [wa_row, upd_ne (by omega)]; exact f7
    have y16 : wa M' 0 (upd y' 16 0) 0 16 = 0 := by rw [wa_row, upd_at]
    generalize wa M' 0 (upd y' 16 0) = MO at y0 yj y17 y16
    have j5 := yj 5 (by omega) (by omega)
    have j6 := yj 6 (by omega) (by omega)
    have j7 := yj 7 (by omega) (by omega)
    have j9 := yj 9 (by omega) (by omega)
    have j11 := yj 11 (by omega) (by omega)
    have j12 := yj 12 (by omega) (by omega)
    refine ⟨?_, ?_, ?_, ?_, ?_, ?_, ?_, ?_, ?_⟩
    · show Pn G Fb (σ 4 0) MO
      unfold Pn MP
      rw [j5, j6, j7, j9, j11, j12, y0 0 (by omega) (by omega), y0 2 (by omega) (by omega), y0 3 (by omega) (by omega), y0 7 (by omega) (by omega)]
      exact h1
    · show SS G Fb (toRow (σ 7 0)) (MO 14)
      rw [yj 14 (by omega) (by omega)]
      exact h2
    · exact ⟨0, by omega, rfl, y16, fun i hi => by omega⟩
    · show z' 4 = MO 0 17
      rw [f5, y17]
    · show Pa G Fb (σ 3 0) (σ 7) MO
      unfold Pa
      rw [y0 32 (by omega) (by omega), yj 34 (by omega) (by omega)]
      exact h5
    · show Ig G Fb (σ 2 0) (σ 7) MO
      unfold Ig
      rw [yj 45 (by omega) (by omega), yj 46 (by omega) (by omega)]
      exact h6
    · show Sn (σ 8 0) MO
      unfold Sn
      rw [y0 37 (by omega) (by omega), yj 39 (by omega) (by omega), yj 40 (by omega) (by omega)]
      exact h7
    · show Bk G (σ 0 0) MO
      unfold Bk
      rw [y0 41 (by omega) (by omega), yj 43 (by omega) (by omega), yj 44 (by omega) (by omega)]
      exact h8
    · show Dw (σ 1 0) MO
      unfold Dw
      rw [y0 14 (by omega) (by omega)]
      exact h9
