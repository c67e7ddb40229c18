theorem upM_out (σ : Mem) {t k t2 k2 : Nat} (g g2 g' : Grp) (h : ¬ (t = t2 ∧ k = k2)) : upM (upM (upM σ t k g) t2 k2 g2) t k g' = upM (upM σ t2 k2 g2) t k g' := by
  rw [upM_mid _ _ _ _ h, upM_swap _ _ _ h]
/-! hours: what holds but for the hours -/
def S3 (G Fb : Nat) (rc rm : Row) : Prop := RR G Fb rc rm ∧ RI G Fb rm ∧ WC G rm
def IN0 (G Fb : Nat) (σ : Mem) : Prop := Pn G Fb (σ 4 0) (σ 11 0) ∧ S3 G Fb (toRow (σ 7 0)) (σ 11 0 14) ∧ Tx (σ 9 0) (σ 11 0) ∧ σ 10 0 0 11 = σ 11 0 0 17 ∧ Pa G Fb (σ 3 0) (σ 7) (σ 11 0) ∧ Ig G Fb (σ 2 0) (σ 7) (σ 11 0) ∧ Sn (σ 8 0) (σ 11 0) ∧ Bk G (σ 0 0) (σ 11 0) ∧ Dw (σ 1 0) (σ 11 0)
theorem IN0_of {G Fb : Nat} {σ : Mem} (h : INV G Fb σ) : IN0 G Fb σ := ⟨h.1, ⟨h.2.1.1, h.2.1.2.1, h.2.1.2.2.1⟩, h.2.2⟩
theorem IN0_to {G Fb : Nat} {σ : Mem} (h : IN0 G Fb σ) (h1 : toRow (σ 7 0) 58 = σ 11 0 14 58) (h2 : inN (σ 11 0 14 58) 9061) : INV G Fb σ := ⟨h.1, ⟨h.2.1.1, h.2.1.2.1, h.2.1.2.2, h1, h2⟩, h.2.2⟩
theorem IN0_now {G Fb : Nat} {σ : Mem} (h : IN0 G Fb σ) {nw : Grp} {rm : Row} (hS : S3 G Fb (toRow nw) rm) : IN0 G Fb (upM (upM σ 7 0 nw) 11 0 (wa (σ 11 0) 14 rm)) := by
  obtain ⟨h1, h2, h3, h4, h5, h6, h7, h8, h9⟩ := h
  refine ⟨?_, ?_, h3, h4, Pa_sc h5 (fun k hk _ => up7 (by omega)), Ig_sc h6 (fun k hk _ => up7 (by omega)), h7, h8, h9⟩
  · exact ⟨h1.1, MP_row h1.2.1 rm, h1.2.2⟩
  · exact hS
theorem IN0_draw {G Fb : Nat} {σ : Mem} (h : IN0 G Fb σ) {n : Nat} (h0 : 0 < n) (hn : n < 2 ^ 31) : ∃ (r : Nat) (dr mo : Grp), r < n ∧ fX1_next (σ 1 0) (nI n) = some (nI r, dr) ∧ fX11_draw (σ 11 0) (nI n) = some (nI r, mo) ∧ IN0 G Fb (upM (upM σ 1 0 dr) 11 0 mo) ∧ (∀ j, ¬ j = 0 → mo j = σ 11 0 j) ∧ ∀ i, ¬ i = 14 → mo 0 i = σ 11 0 0 i := by
  obtain ⟨h1, h2, h3, h4, h5, h6, h7, h8, h9, k, hk, ek⟩ := h
  refine ⟨_, _, _, Nat.mod_lt _ h0, c_draw hk (by rw [h9]; exact ek) h0 hn, m_draw hk ek h0 hn, ⟨h1, h2, h3, h4, h5, h6, h7, h8, rfl, _, nxt_lt k, rfl⟩, fun j hj => wr_oth _ hj, fun i hi => wr_ne (fun e => hi e.2)⟩
theorem press3 {G Fb f : Nat} {pl mo sc : Grp} (hP : Pn G Fb pl mo) (hS : S3 G Fb (toRow sc) (mo 14)) (hf : f < Fb) (hb : ¬ mo 14 (10 + f) = 0) : ∃ (r : Int32) (sc' : Grp) (rm : Row), fX7_pressedFrom sc pl (nI f) (sc 7 f) = some (r, sc') ∧ fX11_pressNow mo (nI f) = some (r, wa mo 14 rm) ∧ S3 G Fb (toRow sc') rm ∧ toRow sc' 58 = toRow sc 58 ∧ rm 58 = mo 14 58 := by
  have hF := hP.1.2.2.2.1
  have hpl : sc 7 f = mo 14 f := by rw [← tr0 (by omega) sc, hS.1.1 _ (ok0 hF hf)]
  have hin : inN (mo 14 f) 10 := hS.2.1.2.2.2.2.1 f hf
  have hRc := RR_RI hF hS.1 hS.2.1
  have hWc := RR_WC hS.1 hS.2.2
  have hbc : ¬ toRow sc (10 + f) = 0 := by rw [hS.1.1 _ (ok10 hF hf)]; exact hb
  rw [hpl]
  obtain ⟨sc', e1, e2⟩ := c_pressed sc pl hf hP.1 hRc hWc hbc (mo 14 f) hin
  have em := m_press mo hf hP.2.1 hS.2.1 hS.2.2 hb
  have cg := cg_press hP.2.1.2.2 (AG_self hP) (mo 0 2) (mo 14 f) hS.1 hS.2.1 hS.2.2 hf hb
  have hI := RI_press (E := mo 0 2) (place := mo 14 f) hP.2.1.2.2 hf hS.2.1 hS.2.2 hb
  have h58 := spress_58 (E := mo 0 2) (place := mo 14 f) hP.2.1.2.2 hf hS.2.1 hS.2.2 hb
  have h58c := spress_58 (E := pl 0 2) (place := mo 14 f) hP.1.2.2 hf hRc hWc hbc
  rw [hP.2.2.2.2.2.1] at e1 e2 h58c
  rw [← cg.1] at em
  refine ⟨_, sc', _, e1, em, ?_, ?_, h58⟩
  · rw [e2]
    exact ⟨cg.2, hI.1, hI.2⟩
  · rw [e2, h58c]
theorem again3 {G Fb i K : Nat} {pl mo sc : Grp} (hP : Pn G Fb pl mo) (hS : S3 G Fb (toRow sc) (mo 14)) (hK : K ≤ 8) (eK : mo 14 16 = nI K) (hi : i < K) : ∃ (r : Int32) (sc' : Grp) (rm : Row), fX7_sentAgain sc pl (nI i) = some (r, sc') ∧ fX11_sendFrom mo (mo 14 15) (mo 0 2) (mo 14 (17 + i)) = some (r, wa mo 14 rm) ∧ S3 G Fb (toRow sc') rm ∧ toRow sc' 58 = toRow sc 58 ∧ rm 58 = mo 14 58 := by
  have hF := hP.1.2.2.2.1
  have hRc := RR_RI hF hS.1 hS.2.1
  have hWc := RR_WC hS.1 hS.2.2
  have hcode : sc 6 i = mo 14 (17 + i) := by rw [← tr17 (by omega) sc, hS.1.2 i (by omega) (by rw [eK]; exact nI_lt hi (by omega))]
  have hear : sc 0 2 = mo 14 15 := by rw [← tr15 sc, hS.1.1 _ ok15]
  unfold fX7_sentAgain
  rw [ab_e (by omega) (by omega), nI_clamp (by omega), hcode, hear, hP.2.2.2.2.2.1]
  obtain ⟨sc', e1, e2⟩ := c_heard sc pl hP.1 hRc hWc (mo 14 (17 + i)) (mo 14 15) (mo 0 2) hS.2.1.2.2.2.2.2.1
  have em := m_send mo hP.2.1 hS.2.1 hS.2.2 (mo 14 15) (mo 0 2) (mo 14 (17 + i))
  have cg := cg_send hP.2.1.2.2 (AG_self hP) (mo 14 15) (mo 0 2) (mo 14 (17 + i)) G 0 0 (toRow sc) (mo 14) (by omega) hS.1 hS.2.1 hS.2.2
  have hI := RI_send (place := mo 14 15) (reach := mo 0 2) (code := mo 14 (17 + i)) hP.2.1.2.2 G 0 0 _ (by omega) hS.2.1 hS.2.2
  have h58 := ssend_58 (place := mo 14 15) (reach := mo 0 2) (code := mo 14 (17 + i)) hP.2.1.2.2 G 0 0 (mo 14) (by omega) hS.2.1 hS.2.2
  have h58c := ssend_58 (place := mo 14 15) (reach := mo 0 2) (code := mo 14 (17 + i)) hP.1.2.2 G 0 0 (toRow sc) (by omega) hRc hWc
  rw [e1, bd_e]
  rw [← cg.1] at em
  refine ⟨_, sc', _, rfl, em, ?_, ?_, h58⟩
  · rw [e2]
    exact ⟨cg.2, hI.1, hI.2⟩
  · rw [e2, h58c]
/-- behind the two first draws -/
theorem chance2 {G Fb : Nat} {τ : Mem} {mo0 : Grp} (h : IN0 G Fb (upM τ 11 0 mo0)) (hF0 : 0 < Fb) : ∃ (σ1 : Mem) (mo1 : Grp),
    (d_bd (fX1_next (τ 1 0) 5) fun q3 => d_lt (upM τ 1 0 q3.2) fun m4 => d_bd (fX1_next (m4 1 0) (m4 4 0 0 4)) fun q5 => d_lt (upM m4 1 0 q5.2) fun m6 => if q3.1 ≤ (1 : Int32) then (d_ab q5.1 5 <| d_bd (fX7_pressedFrom (m6 7 0) (m6 4 0) q5.1 (m6 7 0 7 q5.1.toNatClampNeg)) fun q26 => d_lt (upM m6 7 0 q26.2) fun m27 => some m27) else (if q3.1 = (2 : Int32) then (d_bd (fX1_next (m6 1 0) (10 : Int32)) fun q21 => d_lt (upM m6 1 0 q21.2) fun m22 => d_ab q5.1 5 <| d_lt (upM m22 7 0 (wr (m22 7 0) 7 q5.1.toNatClampNeg q21.1)) fun m24 => some m24) else (if q3.1 = (3 : Int32) then (if (m6 4 0 0 3) ≤ 0 then (fX10_passHour_139 m6 q3.1) else (d_bd (fX1_next (m6 1 0) (m6 4 0 0 3)) fun q17 => d_lt (upM m6 1 0 q17.2) fun m18 => d_bd (fX7_turnNoise (m18 7 0) q17.1) fun q19 => d_lt (upM m18 7 0 q19) fun m20 => some m20)) else (fX10_passHour_139 m6 q3.1)))) = some σ1 ∧ σ1 11 0 = τ 11 0 ∧ fX11_chance mo0 = some mo1 ∧ IN0 G Fb (upM σ1 11 0 mo1) ∧ toRow (σ1 7 0) 58 = toRow (τ 7 0) 58 ∧ mo1 14 58 = mo0 14 58 := by
  have hF := h.1.1.2.2.2.1
  have hG := h.1.1.2.2.1
  unfold fX11_chance
  obtain ⟨a, d1, m1, ha, e1, e2, I1, j1, k1⟩ := IN0_draw h (n := 5) (by omega) (by omega)
  have v1 : upM τ 11 0 mo0 1 0 = τ 1 0 := rfl
  have v11 : upM τ 11 0 mo0 11 0 = mo0 := rfl
  rw [v1] at e1
  rw [v11] at e2 j1 k1
  rw [upM_out _ _ _ _ (by omega)] at I1
  rw [show (5 : Int32) = nI 5 from rfl, e1, e2, bd_e, bd_e, lt_e]
  obtain ⟨f, d2, m2, hf, e3, e4, I2, j2, k2⟩ := IN0_draw I1 (n := Fb) hF0 (by omega)
  have x1 : upM τ 1 0 d1 1 0 = d1 := rfl
  have x4 : upM τ 1 0 d1 4 0 0 4 = nI Fb := h.1.1.2.1
  have x7 : m1 0 7 = nI Fb := by rw [k1 7 (by omega)]; exact h.1.2.1.2.1
  have y1 : upM (upM τ 1 0 d1) 11 0 m1 1 0 = d1 := rfl
  have y11 : upM (upM τ 1 0 d1) 11 0 m1 11 0 = m1 := rfl
  rw [y1] at e3
  rw [y11] at e4 j2 k2
  dsimp only
  rw [x1, x4, x7, e3, e4, bd_e, bd_e, lt_e]
  dsimp only
  have I2' : IN0 G Fb (upM (upM τ 1 0 d2) 11 0 m2) := by
    have e : upM (upM (upM (upM τ 1 0 d1) 11 0 m1) 1 0 d2) 11 0 m2 = upM (upM τ 1 0 d2) 11 0 m2 := by
      rw [upM_mid _ _ _ _ (by omega), upM_mid _ _ _ _ (by omega)]
    rw [e] at I2
    exact I2
  rw [upM_upM]
  -- the state behind two draws: ω
  have z14 : m2 14 = mo0 14 := by rw [j2 14 (by omega), j1 14 (by omega)]
  have w7 : upM τ 1 0 d2 7 0 = τ 7 0 := rfl
  have w4 : upM τ 1 0 d2 4 0 = τ 4 0 := rfl
  have w1 : upM τ 1 0 d2 1 0 = d2 := rfl
  have hP2 : Pn G Fb (τ 4 0) m2 := I2'.1
  have hS2 : S3 G Fb (toRow (τ 7 0)) (m2 14) := I2'.2.1
  -- a new state of both behind the draws
  have fin : ∀ (d : Grp) (m : Grp) (nw : Grp) (rm : Row), IN0 G Fb (upM (upM τ 1 0 d) 11 0 m) → S3 G Fb (toRow nw) rm → toRow nw 58 = toRow (τ 7 0) 58 → rm 58 = mo0 14 58 → (upM (upM τ 1 0 d) 7 0 nw) 11 0 = τ 11 0 ∧ IN0 G Fb (upM (upM (upM τ 1 0 d) 7 0 nw) 11 0 (wa m 14 rm)) ∧ toRow ((upM (upM τ 1 0 d) 7 0 nw) 7 0) 58 = toRow (τ 7 0) 58 ∧ (wa m 14 rm) 14 58 = mo0 14 58 := by
    intro d m nw rm hI hS g1 g2
    refine ⟨rfl, ?_, ?_, ?_⟩
    · have := IN0_now hI hS
      rw [upM_mid _ _ _ _ (by omega)] at this
      exact this
    · exact g1
    · rw [wa_row]; exact g2
  -- nothing happens
  have non : (upM τ 1 0 d2) 11 0 = τ 11 0 ∧ IN0 G Fb (upM (upM τ 1 0 d2) 11 0 m2) ∧ toRow ((upM τ 1 0 d2) 7 0) 58 = toRow (τ 7 0) 58 ∧ m2 14 58 = mo0 14 58 := ⟨rfl, I2', rfl, by rw [z14]⟩
  -- the last case: an entry sent again, or nothing
  have last : ∀ x : Int32, ∃ (σ1 : Mem) (mo1 : Grp), fX10_passHour_139 (upM τ 1 0 d2) x = some σ1 ∧ σ1 11 0 = τ 11 0 ∧ fX11_chance_96 m2 x = some mo1 ∧ IN0 G Fb (upM σ1 11 0 mo1) ∧ toRow (σ1 7 0) 58 = toRow (τ 7 0) 58 ∧ mo1 14 58 = mo0 14 58 := by
    intro x
    unfold fX10_passHour_139 fX11_chance_96
    simp only [ab_l (x := 16) (n := 59) (by decide) (by decide), show (16 : Int32).toNatClampNeg = 16 from rfl, ab_l (x := 15) (n := 59) (by decide) (by decide), show (15 : Int32).toNatClampNeg = 15 from rfl, lt_e]
    by_cases hx : x = 4
    · rw [if_pos hx, if_pos hx, w7, w1]
      obtain ⟨K, hK, eK⟩ := hS2.2.1.2.2.1
      have e16 : τ 7 0 0 4 = nI K := by rw [← tr16 (τ 7 0), hS2.1.1 _ ok16, eK]
      rw [e16, eK]
      by_cases hK0 : K = 0
      · subst hK0
        rw [if_pos (show nI 0 ≤ 0 by decide), if_pos (show nI 0 ≤ 0 by decide)]
        exact ⟨_, _, rfl, non.1, rfl, non.2⟩
      · have hng : ¬ nI K ≤ 0 := by rw [show (0 : Int32) = nI 0 from rfl]; exact nI_ge (by omega) (by omega)
        obtain ⟨i, d3, m3, hi, e5, e6, I3, j3, k3⟩ := IN0_draw I2' (n := K) (by omega) (by omega)
        have y1' : upM (upM τ 1 0 d2) 11 0 m2 1 0 = d2 := rfl
        have y11' : upM (upM τ 1 0 d2) 11 0 m2 11 0 = m2 := rfl
        rw [y1'] at e5
        rw [y11'] at e6 j3 k3
        rw [if_neg hng, if_neg hng, e5, e6, bd_e, bd_e]
        dsimp only
        have I3' : IN0 G Fb (upM (upM τ 1 0 d3) 11 0 m3) := by
          have e : upM (upM (upM (upM τ 1 0 d2) 11 0 m2) 1 0 d3) 11 0 m3 = upM (upM τ 1 0 d3) 11 0 m3 := by
            rw [upM_mid _ _ _ _ (by omega), upM_mid _ _ _ _ (by omega)]
          rw [e] at I3
          exact I3
        rw [upM_upM, ix17, ab_e (by omega) (by omega), nI_clamp (by omega)]
        have z14' : m3 14 = m2 14 := j3 14 (by omega)
        obtain ⟨r, sc', rm, p1, p2, p3, p4, p5⟩ := again3 (sc := τ 7 0) (i := i) (K := K) I3'.1 I3'.2.1 (by omega) (by show m3 14 16 = _; rw [z14']; exact eK) hi
        have w7' : upM τ 1 0 d3 7 0 = τ 7 0 := rfl
        have w4' : upM τ 1 0 d3 4 0 = τ 4 0 := rfl
        have q0 : upM (upM τ 1 0 d3) 11 0 m3 4 0 = τ 4 0 := rfl
        have q1 : upM (upM τ 1 0 d3) 11 0 m3 11 0 = m3 := rfl
        rw [q0] at p1
        rw [q1] at p2 p5
        rw [w7', w4', p1, bd_e, ← z14', ← k3 2 (by omega), p2, bd_e]
        have := fin d3 m3 sc' rm I3' p3 p4 (by rw [p5, z14', z14])
        exact ⟨_, _, rfl, this.1, rfl, this.2⟩
    · rw [if_neg hx, if_neg hx]
      exact ⟨_, _, rfl, non.1, rfl, non.2⟩
  unfold fX11_chance_41
  rw [ix10, ab_e (by omega) (by omega), nI_clamp (by omega)]
  by_cases ha2 : a < 2
  · have c1 : nI a ≤ 1 := nI_le (b := 1) (by omega) (by omega)
    have c2 : nI a < 2 := nI_lt (b := 2) (by omega) (by omega)
    rw [if_pos c1, if_pos c2, ab_e (by omega) (by omega), nI_clamp (by omega), w7, w4]
    by_cases hb : m2 14 (10 + f) = 0
    · rw [if_pos (show m2 14 (10 + f) ≤ 0 by rw [hb]; decide), c_pressed0 (τ 7 0) (τ 4 0) (by omega) (by rw [hS2.1.1 _ (ok10 hF hf)]; exact hb), bd_e, lt_e]
      have n2 : ¬ nI a = 2 := fun e => by have := (nI_inj (b := 2) (by omega) (by omega)).mp e; omega
      have n3 : ¬ nI a = 3 := fun e => by have := (nI_inj (b := 3) (by omega) (by omega)).mp e; omega
      have n4 : ¬ nI a = 4 := fun e => by have := (nI_inj (b := 4) (by omega) (by omega)).mp e; omega
      rw [if_neg n2, if_neg n3]
      unfold fX11_chance_96
      rw [if_neg n4]
      have hs : upM (upM τ 1 0 d2) 7 0 (τ 7 0) = upM τ 1 0 d2 := upM_self (upM τ 1 0 d2) 7 0
      dsimp only
      rw [hs]
      exact ⟨_, _, rfl, non.1, rfl, non.2⟩
    · have hpos : ¬ m2 14 (10 + f) ≤ 0 := by
        obtain ⟨k, hk, ek⟩ := hS2.2.1.2.2.2.2.2.2.2.1 f hf
        rw [ek] at hb ⊢
        have hk0 : ¬ k = 0 := fun e => hb (by rw [e]; rfl)
        rw [show (0 : Int32) = nI 0 from rfl]
        exact nI_ge (by omega) (by omega)
      obtain ⟨r, sc', rm, p1, p2, p3, p4, p5⟩ := press3 hP2 hS2 hf hb
      rw [if_neg hpos, p1, p2, bd_e, bd_e, lt_e]
      have := fin d2 m2 sc' rm I2' p3 p4 (by rw [p5, z14])
      exact ⟨_, _, rfl, this.1, rfl, this.2⟩
  · have c1 : ¬ nI a ≤ 1 := fun e => by have := (nI_le_iff (b := 1) (by omega) (by omega)).mp e; omega
    have c2 : ¬ nI a < 2 := nI_nlt (b := 2) (by omega) (by omega)
    rw [if_neg c1, if_neg c2]
    by_cases h2 : nI a = 2
    · rw [if_pos h2, if_pos h2, w1]
      obtain ⟨p, d3, m3, hp, e5, e6, I3, j3, k3⟩ := IN0_draw I2' (n := 10) (by omega) (by omega)
      have y1' : upM (upM τ 1 0 d2) 11 0 m2 1 0 = d2 := rfl
      have y11' : upM (upM τ 1 0 d2) 11 0 m2 11 0 = m2 := rfl
      rw [y1'] at e5
      rw [y11'] at e6 j3 k3
      rw [show (10 : Int32) = nI 10 from rfl, e5, e6, bd_e, bd_e, lt_e, ab_e (by omega) (by omega), ab_e (by omega) (by omega), lt_e, lt_e]
      dsimp only
      have I3' : IN0 G Fb (upM (upM τ 1 0 d3) 11 0 m3) := by
        have e : upM (upM (upM (upM τ 1 0 d2) 11 0 m2) 1 0 d3) 11 0 m3 = upM (upM τ 1 0 d3) 11 0 m3 := by
          rw [upM_mid _ _ _ _ (by omega), upM_mid _ _ _ _ (by omega)]
        rw [e] at I3
        exact I3
      rw [upM_upM]
      have w7' : upM τ 1 0 d3 7 0 = τ 7 0 := rfl
      rw [w7', wr_wa m3]
      have z14' : m3 14 = m2 14 := j3 14 (by omega)
      have := fin d3 m3 (wr (τ 7 0) 7 f (nI p)) (upd (m3 14) f (nI p)) I3' (by
        rw [tw0 (by omega), z14']
        exact ⟨RR_upd hS2.1 (by omega) (by omega) _, RI_0 hF hS2.2.1 (by omega) ⟨p, hp, rfl⟩, WC_upd hS2.2.2 (by omega)⟩) (by rw [tw0 (by omega), upd_ne (by omega)]) (by rw [upd_ne (by omega), z14', z14])
      exact ⟨_, _, rfl, this.1, rfl, this.2⟩
    · rw [if_neg h2, if_neg h2]
      by_cases h3 : nI a = 3
      · have hg4 : upM τ 1 0 d2 4 0 0 3 = nI G := h.1.1.1
        have hg11 : m2 0 3 = nI G := by rw [k2 3 (by omega), k1 3 (by omega)]; exact h.1.2.1.1
        rw [if_pos h3, if_pos h3, hg4, hg11]
        by_cases hG0 : G = 0
        · subst hG0
          rw [if_pos (show nI 0 ≤ 0 by decide), if_pos (show nI 0 ≤ 0 by decide)]
          exact last _
        · have hng : ¬ nI G ≤ 0 := by rw [show (0 : Int32) = nI 0 from rfl]; exact nI_ge (by omega) (by omega)
          obtain ⟨g, d3, m3, hg, e5, e6, I3, j3, k3⟩ := IN0_draw I2' (n := G) (by omega) (by omega)
          have y1' : upM (upM τ 1 0 d2) 11 0 m2 1 0 = d2 := rfl
          have y11' : upM (upM τ 1 0 d2) 11 0 m2 11 0 = m2 := rfl
          rw [y1'] at e5
          rw [y11'] at e6 j3 k3
          rw [if_neg hng, if_neg hng, w1, ab_l (by decide) (by decide), e5, e6, bd_e, bd_e, lt_e, ab_l (by decide) (by decide), lt_e, show (25 : Int32).toNatClampNeg = 25 from rfl]
          dsimp only
          have I3' : IN0 G Fb (upM (upM τ 1 0 d3) 11 0 m3) := by
            have e : upM (upM (upM (upM τ 1 0 d2) 11 0 m2) 1 0 d3) 11 0 m3 = upM (upM τ 1 0 d3) 11 0 m3 := by
              rw [upM_mid _ _ _ _ (by omega), upM_mid _ _ _ _ (by omega)]
            rw [e] at I3
            exact I3
          rw [upM_upM]
          have w7' : upM τ 1 0 d3 7 0 = τ 7 0 := rfl
          unfold fX7_turnNoise
          rw [w7', lt_e, bd_e, lt_e, wr_wa m3]
          have z14' : m3 14 = m2 14 := j3 14 (by omega)
          have e25 : τ 7 0 0 3 = m2 14 25 := by rw [← tr25 (τ 7 0), hS2.1.1 _ ok25]
          rw [e25]
          have := fin d3 m3 (wr (τ 7 0) 0 3 (m2 14 25 ^^^ ((1 : Int32) <<< (nI g &&& 31)))) (upd (m3 14) 25 (m2 14 25 ^^^ ((1 : Int32) <<< (nI g &&& 31)))) I3' (by
            rw [tw25, z14']
            exact ⟨RR_upd hS2.1 (by omega) (by omega) _, RI_25 hF hS2.2.1 (noise_in hS2.2.1 (by omega)), WC_upd hS2.2.2 (by omega)⟩) (by rw [tw25, upd_ne (by omega)]) (by rw [upd_ne (by omega), z14', z14])
          exact ⟨_, _, rfl, this.1, rfl, this.2⟩
      · rw [if_neg h3, if_neg h3]
        exact last _
theorem RR_58 {G : Nat} {Fb : Nat} {rc rm : Row} (h : RR G Fb rc rm) (v : Int32) : RR G Fb (upd rc 58 v) rm := ⟨fun i hi => by rw [upd_ne (by have := hi.1; omega)]; exact h.1 i hi, fun i hi hk => by rw [upd_ne (by omega)]; exact h.2 i hi hk⟩
theorem RR_58m {G : Nat} {Fb : Nat} {rc rm : Row} (h : RR G Fb rc rm) (v : Int32) : RR G Fb rc (upd rm 58 v) := ⟨fun i hi => by rw [upd_ne (by have := hi.1; omega)]; exact h.1 i hi, fun i hi hk => by rw [upd_ne (by omega)] at hk; rw [upd_ne (by omega)]; exact h.2 i hi hk⟩
theorem hour2 {G Fb : Nat} {σ : Mem} {mo : Grp} (h : INV G Fb (upM σ 11 0 mo)) {hh : Nat} (hh1 : hh < 9060) (e58 : mo 14 58 = nI hh) : ∃ (σ1 : Mem) (mo1 : Grp), fX10_passHour σ = some σ1 ∧ σ1 11 0 = σ 11 0 ∧ INV G Fb (upM σ1 11 0 mo1) ∧ mo1 14 58 = nI (hh + 1) ∧ ((Fb = 0 ∧ mo1 = wr mo 14 58 (mo 14 58 + 1)) ∨ (¬ Fb = 0 ∧ ∃ mc, fX11_chance mo = some mc ∧ mo1 = wr mc 14 58 (mc 14 58 + 1))) := by
  have hF := h.1.1.2.2.2.1
  have h0 := IN0_of h
  have hrow : toRow (σ 7 0) 58 = nI hh := by
    have := h.2.1.2.2.2.1
    rw [show upM σ 11 0 mo 7 0 = σ 7 0 from rfl, show upM σ 11 0 mo 11 0 14 58 = mo 14 58 from rfl, e58] at this
    exact this
  have e1 : σ 7 0 0 1 = nI hh := by rw [← tr58 (σ 7 0)]; exact hrow
  unfold fX10_passHour
  rw [lt_e, e1, ix1]
  have hf4 : upM σ 7 0 (wr (σ 7 0) 0 1 (nI (hh + 1))) 4 0 0 4 = nI Fb := h.1.1.2.1
  rw [hf4]
  have tr1 : toRow (wr (σ 7 0) 0 1 (nI (hh + 1))) = upd (toRow (σ 7 0)) 58 (nI (hh + 1)) := tw58 _ _
  have hS : S3 G Fb (upd (toRow (σ 7 0)) 58 (nI (hh + 1))) (mo 14) := ⟨RR_58 h0.2.1.1 _, h0.2.1.2⟩
  have I1 : IN0 G Fb (upM (upM σ 7 0 (wr (σ 7 0) 0 1 (nI (hh + 1)))) 11 0 mo) := by
    have := IN0_now h0 (nw := wr (σ 7 0) 0 1 (nI (hh + 1))) (rm := mo 14) (by rw [tr1]; exact hS)
    rw [upM_mid _ _ _ _ (by omega), show upM σ 11 0 mo 11 0 = mo from rfl, wa_self] at this
    exact this
  -- the model's hour behind a state
  have fin : ∀ (σ1 : Mem) (mc : Grp), IN0 G Fb (upM σ1 11 0 mc) → toRow (σ1 7 0) 58 = nI (hh + 1) → mc 14 58 = nI hh → INV G Fb (upM σ1 11 0 (wr mc 14 58 (mc 14 58 + 1))) ∧ (wr mc 14 58 (mc 14 58 + 1)) 14 58 = nI (hh + 1) := by
    intro σ1 mc hI g1 g2
    rw [g2, ix1]
    have hS1 := hI.2.1
    rw [show upM σ1 11 0 mc 7 0 = σ1 7 0 from rfl, show upM σ1 11 0 mc 11 0 14 = mc 14 from rfl] at hS1
    have := IN0_now hI (nw := σ1 7 0) (rm := upd (mc 14) 58 (nI (hh + 1))) ⟨RR_58m hS1.1 _, RI_58 hF hS1.2.1, WC_upd hS1.2.2 (by omega)⟩
    have e : upM (upM (upM σ1 11 0 mc) 7 0 (σ1 7 0)) 11 0 (wa (upM σ1 11 0 mc 11 0) 14 (upd (mc 14) 58 (nI (hh + 1)))) = upM σ1 11 0 (wr mc 14 58 (nI (hh + 1))) := by
      rw [upM_out _ _ _ _ (by omega), upM_self, show upM σ1 11 0 mc 11 0 = mc from rfl]
      rfl
    rw [e] at this
    refine ⟨IN0_to this ?_ ?_, wr_eq _ _ _ _⟩
    · show toRow (σ1 7 0) 58 = wr mc 14 58 (nI (hh + 1)) 14 58
      rw [g1, wr_eq]
    · show inN (wr mc 14 58 (nI (hh + 1)) 14 58) 9061
      rw [wr_eq]
      exact ⟨hh + 1, by omega, rfl⟩
  by_cases hFb : Fb = 0
  · rw [hFb, if_pos (show nI 0 = 0 from rfl)]
    have hf := fin (upM σ 7 0 (wr (σ 7 0) 0 1 (nI (hh + 1)))) mo I1 (by rw [show upM σ 7 0 (wr (σ 7 0) 0 1 (nI (hh + 1))) 7 0 = wr (σ 7 0) 0 1 (nI (hh + 1)) from rfl, tr1, upd_at]) e58
    rw [hFb] at hf
    exact ⟨_, _, rfl, rfl, hf.1, hf.2, Or.inl ⟨rfl, rfl⟩⟩
  · rw [if_neg (nI_ne0 (by omega) (by omega))]
    obtain ⟨σ1, mc, c1, c2, c3, c4, c5, c6⟩ := chance2 I1 (by omega)
    rw [show upM σ 7 0 (wr (σ 7 0) 0 1 (nI (hh + 1))) 7 0 = wr (σ 7 0) 0 1 (nI (hh + 1)) from rfl, tr1, upd_at] at c5
    have hf := fin σ1 mc c4 c5 (by rw [c6]; exact e58)
    exact ⟨σ1, _, c1, c2, hf.1, hf.2, Or.inr ⟨hFb, mc, c3, rfl⟩⟩
theorem drift2 {G Fb m : Nat} (hm : m ≤ 60) : ∀ (n k fu hh : Nat) (σ : Mem) (mo : Grp), k + n = m → n + 1 ≤ fu → hh + n ≤ 9060 → mo 14 58 = nI hh → INV G Fb (upM σ 11 0 mo) → ∃ (r : Int32) (σ1 : Mem) (mo1 : Grp), fX10_drift_56 fu σ (nI m) (nI k) = some (r, σ1) ∧ σ1 11 0 = σ 11 0 ∧ fX11_drift_47 fu mo (nI m) (nI k) = some (r, mo1) ∧ INV G Fb (upM σ1 11 0 mo1) := by
  intro n
  induction n with
  | zero =>
    intro k fu hh σ mo hk hf hh1 e58 h
    obtain ⟨fu, rfl⟩ : ∃ z, fu = z + 1 := ⟨fu - 1, by omega⟩
    rw [fX10_drift_56, fX11_drift_47, if_neg (nI_nlt (by omega) (by omega)), if_neg (nI_nlt (by omega) (by omega)), ab_l (by decide) (by decide), show (58 : Int32).toNatClampNeg = 58 from rfl]
    refine ⟨_, σ, mo, rfl, rfl, ?_, h⟩
    have := h.2.1.2.2.2.1
    rw [show upM σ 11 0 mo 7 0 = σ 7 0 from rfl, show upM σ 11 0 mo 11 0 14 58 = mo 14 58 from rfl, tr58] at this
    rw [this]
  | succ n ih =>
    intro k fu hh σ mo hk hf hh1 e58 h
    obtain ⟨fu, rfl⟩ : ∃ z, fu = z + 1 := ⟨fu - 1, by omega⟩
    have hF := h.1.1.2.2.2.1
    have hf7 : mo 0 7 = nI Fb := h.1.2.1.2.1
    obtain ⟨σ1, mo1, c1, c2, c3, c4, c5⟩ := hour2 h (hh := hh) (by omega) e58
    rw [fX10_drift_56, fX11_drift_47, if_pos (nI_lt (by omega) (by omega)), if_pos (nI_lt (by omega) (by omega)), c1, bd_e, lt_e, hf7]
    obtain ⟨r, σ2, mo2, d1, d2, d3, d4⟩ := ih (k + 1) fu (hh + 1) σ1 mo1 (by omega) (by omega) (by omega) c4 c3
    rcases c5 with ⟨hFb, rfl⟩ | ⟨hFb, mc, g1, rfl⟩
    · subst hFb
      rw [if_pos (show nI 0 ≤ 0 by decide), ab_l (by decide) (by decide), ab_l (by decide) (by decide), lt_e, lt_e, show (58 : Int32).toNatClampNeg = 58 from rfl, ix1]
      exact ⟨r, σ2, mo2, d1, d2.trans c2, d3, d4⟩
    · rw [if_neg (by rw [show (0 : Int32) = nI 0 from rfl]; exact nI_ge (by omega) (by omega)), g1, bd_e, ab_l (by decide) (by decide), ab_l (by decide) (by decide), lt_e, lt_e, show (58 : Int32).toNatClampNeg = 58 from rfl, ix1]
      exact ⟨r, σ2, mo2, d1, d2.trans c2, d3, d4⟩
theorem w_drift {G Fb : Nat} {σ : Mem} (h : INV G Fb σ) (x : Int32) : SW (fX10_drift σ x) (fX11_drift (σ 11 0) x) σ := by
  unfold fX10_drift fX11_drift
  have hin : fX11_in x.toInt64 (1 : Int64) (60 : Int64) = some (if 1 ≤ x ∧ x ≤ 60 then 1 else 0) := m_in x 1 60
  rw [hin, bd_e]
  by_cases h1 : 1 ≤ x
  · rw [if_neg (Int32.not_lt.mpr h1)]
    by_cases h2 : x ≤ 60
    · rw [if_pos h2, if_neg (show ¬ (if 1 ≤ x ∧ x ≤ 60 then (1 : Int32) else 0) = 0 by rw [if_pos ⟨h1, h2⟩]; decide), h.1.2.2.2.1]
      by_cases h3 : σ 11 0 0 0 = 0
      · rw [if_pos h3, if_pos h3]
        exact SW_no h rfl rfl
      · rw [if_neg h3, if_neg h3, ab_l (by decide) (by decide), show (58 : Int32).toNatClampNeg = 58 from rfl]
        have e1 : σ 7 0 0 1 = σ 11 0 14 58 := by rw [← tr58 (σ 7 0)]; exact h.2.1.2.2.2.1
        rw [e1]
        by_cases h4 : σ 11 0 14 58 ≤ 9000
        · obtain ⟨σ', mo', e1, e2, s7, s4, s11, m14, hP, hI, hN⟩ := act h
          rw [if_pos h4, if_pos h4, e1, e2, bd_e, bd_e]
          obtain ⟨hh, hhl, eh⟩ := h.2.1.2.2.2.2
          have hh9 : hh ≤ 9000 := by rw [eh] at h4; exact (nI_le_iff (b := 9000) (by omega) (by omega)).mp h4
          obtain ⟨m, hm, rfl⟩ := of_range (n := 61) (by omega) (Int32.le_trans (by decide) h1) ((le_lt (n := 60) (by omega)).mp h2)
          obtain ⟨r, σ1, mo1, d1, d2, d3, d4⟩ := drift2 (G := G) (Fb := Fb) (m := m) (by omega) m 0 1000 hh σ' mo' (by omega) (by omega) (by omega) (by rw [m14]; exact eh) hI
          rw [show nI 0 = (0 : Int32) from rfl] at d1 d3
          exact ⟨r, σ1, mo1, d1, d2.trans s11, d3, G, Fb, d4⟩
        · rw [if_neg h4, if_neg h4]
          exact SW_no h rfl rfl
    · exact SW_no h (by rw [if_neg h2]) (by rw [if_pos (show (if 1 ≤ x ∧ x ≤ 60 then (1 : Int32) else 0) = 0 by rw [if_neg (fun e => h2 e.2)])])
  · exact SW_no h (by rw [if_pos (Int32.not_le.mp h1)]) (by rw [if_pos (show (if 1 ≤ x ∧ x ≤ 60 then (1 : Int32) else 0) = 0 by rw [if_neg (fun e => h1 e.1)])])
