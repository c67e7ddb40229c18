theorem AG_self {G Fb : Nat} {pl mo : Grp} (h : Pn G Fb pl mo) : AG G Fb (pl 6) (pl 7) (pl 8) (pl 9) (pl 11) (pl 12) (mo 5) (mo 6) (mo 7) (mo 9) (mo 11) (mo 12) := h.2.2.1
/-- a press of both on one state -/
theorem press2 {G Fb f : Nat} {pl mo sc : Grp} (hP : Pn G Fb pl mo) (hS : SS G Fb (toRow sc) (mo 14)) (hf : f < Fb) (hb : ¬ mo 14 (10 + f) = 0) : ∃ (r : Int32) (sc' : Grp) (rm : Row), fX7_pressedFrom sc pl (nI f) (sc 7 f) = some (r, sc') ∧ fX11_pressNow mo (nI f) = some (r, wa mo 14 rm) ∧ SS G Fb (toRow sc') rm := by
  have hF := hP.1.2.2.2.1
  have hpl : sc 7 f = mo 14 f := by rw [← tr0 (by omega) sc, hS.1.1 _ (ok0 hF hf)]
  have hin : inN (mo 14 f) 10 := hS.2.1.2.2.2.2.1 f hf
  have hRc := RR_RI hF hS.1 hS.2.1
  have hWc := RR_WC hS.1 hS.2.2.1
  have hbc : ¬ toRow sc (10 + f) = 0 := by rw [hS.1.1 _ (ok10 hF hf)]; exact hb
  rw [hpl]
  obtain ⟨sc', e1, e2⟩ := c_pressed sc pl hf hP.1 hRc hWc hbc (mo 14 f) hin
  have em := m_press mo hf hP.2.1 hS.2.1 hS.2.2.1 hb
  have cg := cg_press hP.2.1.2.2 (AG_self hP) (mo 0 2) (mo 14 f) hS.1 hS.2.1 hS.2.2.1 hf hb
  have hI := RI_press (E := mo 0 2) (place := mo 14 f) hP.2.1.2.2 hf hS.2.1 hS.2.2.1 hb
  have h58 := spress_58 (E := mo 0 2) (place := mo 14 f) hP.2.1.2.2 hf hS.2.1 hS.2.2.1 hb
  have h58c := spress_58 (E := pl 0 2) (place := mo 14 f) hP.1.2.2 hf hRc hWc hbc
  rw [hP.2.2.2.2.2.1] at e1 e2 h58c
  rw [← cg.1] at em
  refine ⟨_, sc', _, e1, em, ?_⟩
  rw [e2]
  exact ⟨cg.2, hI.1, hI.2, by rw [h58, h58c]; exact hS.2.2.2.1, by rw [h58]; exact hS.2.2.2.2⟩
theorem w_press {G Fb : Nat} {σ : Mem} (h : INV G Fb σ) (x : Int32) : SW (fX10_press σ x) (fX11_press (σ 11 0) x) σ := by
  have hF := h.1.1.2.2.2.1
  unfold fX10_press fX11_press
  rcases fobs2 h.1 x with ⟨f, hf, rfl, a1, a2⟩ | ⟨a1, a2⟩
  · rw [a1, a2, bd_e, bd_e, if_neg i10, if_neg i10]
    have e0 : σ 7 0 9 f = σ 11 0 14 (10 + f) := by rw [← tr10 (by omega) (σ 7 0), h.2.1.1.1 _ (ok10 hF hf)]
    simp (disch := omega) only [ix10, ab_e, nI_clamp, lt_e]
    rw [e0]
    obtain ⟨k, hk, ek⟩ := h.2.1.2.1.2.2.2.2.2.2.2.1 f hf
    by_cases hb : σ 11 0 14 (10 + f) = 0
    · rw [if_pos hb, hb, if_pos (by decide)]
      exact SW_no h rfl rfl
    · have hk0 : ¬ k = 0 := fun e => hb (by rw [ek, e]; rfl)
      obtain ⟨σ', mo', e1, e2, s7, s4, s11, m14, hP, hI, hN⟩ := act h
      rw [if_neg hb, ek, if_neg (by rw [show (0 : Int32) = nI 0 from rfl]; exact nI_ge (by omega) (by omega)), e1, e2, bd_e, bd_e, s7, s4]
      obtain ⟨r, sc', rm, p1, p2, p3⟩ := press2 (sc := σ 7 0) hP (by rw [m14]; exact h.2.1) hf (by rw [m14]; exact hb)
      rw [p1, p2, bd_e, bd_e]
      exact ⟨r, _, _, rfl, s11, rfl, G, Fb, hN sc' rm p3⟩
  · exact SW_no h (by rw [a1, bd_e, if_pos i00]) (by rw [a2, bd_e, if_pos i00])
/-- a kept code sent again, by both -/
theorem again2 {G Fb i K : Nat} {pl mo sc : Grp} (hP : Pn G Fb pl mo) (hS : SS G Fb (toRow sc) (mo 14)) (hK : K ≤ 8) (eK : mo 14 16 = nI K) (hi : i < K) : ∃ (r : Int32) (sc' : Grp) (rm : Row), fX7_sentAgain sc pl (nI i) = some (r, sc') ∧ fX11_sendFrom mo (mo 14 15) (mo 0 2) (mo 14 (17 + i)) = some (r, wa mo 14 rm) ∧ SS G Fb (toRow sc') rm := by
  have hF := hP.1.2.2.2.1
  have hRc := RR_RI hF hS.1 hS.2.1
  have hWc := RR_WC hS.1 hS.2.2.1
  have hcode : sc 6 i = mo 14 (17 + i) := by rw [← tr17 (by omega) sc, hS.1.2 i (by omega) (by rw [eK]; exact nI_lt hi (by omega))]
  have hear : sc 0 2 = mo 14 15 := by rw [← tr15 sc, hS.1.1 _ ok15]
  unfold fX7_sentAgain
  rw [ab_e (by omega) (by omega), nI_clamp (by omega), hcode, hear, hP.2.2.2.2.2.1]
  obtain ⟨sc', e1, e2⟩ := c_heard sc pl hP.1 hRc hWc (mo 14 (17 + i)) (mo 14 15) (mo 0 2) hS.2.1.2.2.2.2.2.1
  have em := m_send mo hP.2.1 hS.2.1 hS.2.2.1 (mo 14 15) (mo 0 2) (mo 14 (17 + i))
  have cg := cg_send hP.2.1.2.2 (AG_self hP) (mo 14 15) (mo 0 2) (mo 14 (17 + i)) G 0 0 (toRow sc) (mo 14) (by omega) hS.1 hS.2.1 hS.2.2.1
  have hI := RI_send (place := mo 14 15) (reach := mo 0 2) (code := mo 14 (17 + i)) hP.2.1.2.2 G 0 0 _ (by omega) hS.2.1 hS.2.2.1
  have h58 := ssend_58 (place := mo 14 15) (reach := mo 0 2) (code := mo 14 (17 + i)) hP.2.1.2.2 G 0 0 (mo 14) (by omega) hS.2.1 hS.2.2.1
  have h58c := ssend_58 (place := mo 14 15) (reach := mo 0 2) (code := mo 14 (17 + i)) hP.1.2.2 G 0 0 (toRow sc) (by omega) hRc hWc
  rw [e1, bd_e]
  rw [← cg.1] at em
  refine ⟨_, sc', _, rfl, em, ?_⟩
  · rw [e2]
    exact ⟨cg.2, hI.1, hI.2, by rw [h58, h58c]; exact hS.2.2.2.1, by rw [h58]; exact hS.2.2.2.2⟩
theorem w_again {G Fb : Nat} {σ : Mem} (h : INV G Fb σ) (x : Int32) : SW (fX10_again σ x) (fX11_again (σ 11 0) x) σ := by
  obtain ⟨K, hK, eK⟩ := h.2.1.2.1.2.2.1
  have e1 : σ 7 0 0 4 = nI K := by rw [← tr16 (σ 7 0), h.2.1.1.1 _ ok16, eK]
  unfold fX10_again fX11_again
  simp only [ab_l (x := 16) (n := 59) (by decide) (by decide), show (16 : Int32).toNatClampNeg = 16 from rfl, ab_l (x := 15) (n := 59) (by decide) (by decide), show (15 : Int32).toNatClampNeg = 15 from rfl]
  rcases kept2 (sc := σ 7 0) (rm := σ 11 0 14) (by omega) e1 eK x with ⟨i, hi, rfl, a1, a2⟩ | ⟨a1, a2⟩
  · obtain ⟨σ', mo', e1, e2, s7, s4, s11, m14, hP, hI, hN⟩ := act h
    rw [a1, a2, bd_e, bd_e, if_neg i10, if_neg i10, e1, e2, bd_e, bd_e, ix17, ab_e (by omega) (by omega), nI_clamp (by omega), s7, s4]
    obtain ⟨r, sc', rm, p1, p2, p3⟩ := again2 (sc := σ 7 0) hP (by rw [m14]; exact h.2.1) (K := K) (by omega) (by rw [m14]; exact eK) hi
    rw [p1, p2, bd_e, bd_e]
    exact ⟨r, _, _, rfl, s11, rfl, G, Fb, hN sc' rm p3⟩
  · exact SW_no h (by rw [a1, bd_e, if_pos i00]) (by rw [a2, bd_e, if_pos i00])
theorem w_seed {G Fb : Nat} {σ : Mem} (h : INV G Fb σ) (x : Int32) : SW (fX10_seed σ x) (fX11_seed (σ 11 0) x) σ := by
  unfold fX10_seed fX11_seed
  by_cases hx : x < 0
  · exact SW_no h (by rw [if_pos hx]) (by rw [if_pos hx])
  · rw [if_neg hx, if_neg hx]
    simp only [lt_e]
    obtain ⟨h1, h2, h3, h4, h5, h6, h7, h8, h9⟩ := h
    rw [h9.1]
    refine ⟨_, _, _, rfl, rfl, rfl, G, Fb, h1, h2, h3, h4, h5, h6, h7, h8, rfl, ?_⟩
    show inN x (2 ^ 31)
    have h0 := Int32.le_iff_toInt_le.mp (Int32.not_lt.mp hx)
    rw [show (0 : Int32).toInt = 0 from rfl] at h0
    have hlt := Int32.toInt_lt x
    refine ⟨x.toInt.toNat, by omega, ?_⟩
    apply Int32.toInt_inj.mp
    rw [nI_toInt (by omega)]
    omega
theorem w_feed {G Fb : Nat} {σ : Mem} (h : INV G Fb σ) (x : Int32) : SW (fX10_feed σ x) (fX11_feed (σ 11 0) x) σ := by
  unfold fX10_feed fX11_feed
  rcases in2 (c := 255) (by omega) (b := 255) rfl x with ⟨k, hk, he, n0, n1, n2, e⟩ | ⟨e, n0 | ⟨n0, n1, n2⟩⟩
  · rw [if_neg n0, if_pos (show x ≤ 255 from n1), e, bd_e, if_neg i10]
    have h' := h
    obtain ⟨h1, h2, ⟨n, hn, t1, t2, t3⟩, h4, h5, h6, h7, h8, h9⟩ := h
    unfold fX9_add
    rw [t1, t2]
    by_cases hn2 : n = 240
    · subst hn2
      rw [if_neg (show ¬ nI 240 < 240 by decide), if_pos (show nI 240 = 240 from rfl), bd_e, lt_e, if_pos i00, upM_self]
      exact SW_no h' rfl rfl
    · rw [if_pos (show nI n < 240 from nI_lt (b := 240) (by omega) (by omega)), if_neg (show ¬ nI n = 240 from fun e => hn2 ((nI_inj (b := 240) (by omega) (by omega)).mp e)), ab_e (by omega) (by omega), ab_e (by omega) (by omega)]
      simp only [lt_e, bd_e, nI_clamp (show n < 2 ^ 31 by omega)]
      rw [if_neg i10, wr_oth _ (show ¬ 0 = 1 by omega), wr_oth _ (show ¬ 0 = 16 by omega), t1, t2, ix1]
      refine ⟨_, _, _, rfl, rfl, rfl, G, Fb, h1, h2, ⟨n + 1, by omega, rfl, rfl, ?_⟩, h4, h5, h6, h7, h8, h9⟩
      intro i hi
      show upd (σ 9 0 1) n x i = upd (σ 11 0 16) n x i ∧ inN (upd (σ 11 0 16) n x i) 256
      by_cases hin : i = n
      · rw [hin, upd_at, upd_at]
        exact ⟨rfl, k, by omega, he⟩
      · rw [upd_ne hin, upd_ne hin]
        exact t3 i (by omega)
  · exact SW_no h (by rw [if_pos n0]) (by rw [e, bd_e, if_pos i00])
  · exact SW_no h (by rw [if_neg n0, if_neg (show ¬ x ≤ 255 from n1)]) (by rw [e, bd_e, if_pos i00])
theorem w_write {G Fb : Nat} {σ : Mem} (h : INV G Fb σ) (x y : Int32) : SW (fX10_write σ x y) (fX11_write (σ 11 0) x y) σ := by
  unfold fX10_write fX11_write
  rcases gates2 h.1 x with ⟨g, hg, rfl, a1, a2⟩ | ⟨a1, a2⟩
  · rw [a1, a2, bd_e, bd_e, if_neg i10, if_neg i10]
    rcases in2 (c := 9999) (by omega) (b := 9999) rfl y with ⟨k, hk, he, n0, n1, n2, e⟩ | ⟨e, n0 | ⟨n0, n1, n2⟩⟩
    · rw [if_neg n0, if_pos (show y ≤ 9999 from n1), e, bd_e, if_neg i10]
      have h' := h
      obtain ⟨h1, h2, h3, h4, h5, h6, h7, ⟨n, hn, t1, t2, t3⟩, h9⟩ := h
      unfold fX0_add
      rw [t1, t2]
      by_cases hn2 : n = 15
      · subst hn2
        rw [if_neg (show ¬ nI 15 < 15 by decide), if_pos (show nI 15 = 15 from rfl), bd_e, lt_e, if_pos i00, upM_self]
        exact SW_no h' rfl rfl
      · rw [if_pos (show nI n < 15 from nI_lt (b := 15) (by omega) (by omega)), if_neg (show ¬ nI n = 15 from fun e => hn2 ((nI_inj (b := 15) (by omega) (by omega)).mp e)), ab_e (by omega) (by omega), ab_e (by omega) (by omega)]
        simp only [lt_e, nI_clamp (show n < 2 ^ 31 by omega)]
        rw [wr_oth _ (show ¬ 0 = 1 by omega), wr_oth _ (show ¬ 0 = 43 by omega), t1, t2, ab_e (by omega) (by omega), ab_e (by omega) (by omega)]
        simp only [bd_e, nI_clamp (show n < 2 ^ 31 by omega)]
        rw [if_neg i10, wr_oth _ (show ¬ 0 = 2 by omega), wr_oth _ (show ¬ 0 = 1 by omega), wr_oth _ (show ¬ 0 = 44 by omega), wr_oth _ (show ¬ 0 = 43 by omega), t1, t2, ix1]
        refine ⟨_, _, _, rfl, rfl, rfl, G, Fb, h1, h2, h3, h4, h5, h6, h7, ⟨n + 1, by omega, rfl, rfl, ?_⟩, h9⟩
        intro i hi
        show upd (σ 0 0 1) n (nI g) i = upd (σ 11 0 43) n (nI g) i ∧ inN (upd (σ 11 0 43) n (nI g) i) G ∧ upd (σ 0 0 2) n y i = upd (σ 11 0 44) n y i
        by_cases hin : i = n
        · rw [hin, upd_at, upd_at, upd_at, upd_at]
          exact ⟨rfl, ⟨g, hg, rfl⟩, rfl⟩
        · rw [upd_ne hin, upd_ne hin, upd_ne hin, upd_ne hin]
          exact t3 i (by omega)
    · exact SW_no h (by rw [if_pos n0]) (by rw [e, bd_e, if_pos i00])
    · exact SW_no h (by rw [if_neg n0, if_neg (show ¬ y ≤ 9999 from n1)]) (by rw [e, bd_e, if_pos i00])
  · exact SW_no h (by rw [a1, bd_e, if_pos i00]) (by rw [a2, bd_e, if_pos i00])
