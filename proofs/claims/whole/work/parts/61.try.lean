/-! tried, and put back -/
theorem INV_try {G Fb : Nat} {σ : Mem} {mo : Grp} (h : INV G Fb (upM σ 11 0 mo)) (X : Grp) {r B : Row} (hr : E59 r (mo 14)) : INV G Fb (upM (upM σ 7 1 X) 11 0 (wa (wa mo 35 B) 14 r)) := by
  obtain ⟨h1, h2, h3, h4, h5, h6, h7, h8, h9⟩ := h
  have hF := h1.1.2.2.2.1
  refine ⟨h1, ?_, h3, h4, Pa_sc (sc := σ 7) h5 (fun k hk _ => ?_), Ig_sc (sc := σ 7) h6 (fun k hk _ => ?_), h7, h8, h9⟩
  · exact SS_E59 hF hr h2
  · exact up7 (by omega)
  · exact up7 (by omega)
theorem INV_try0 {G Fb : Nat} {σ : Mem} {mo : Grp} (h : INV G Fb (upM σ 11 0 mo)) (X : Grp) : INV G Fb (upM (upM σ 7 1 X) 11 0 mo) := by
  have := INV_try h X (r := mo 14) (B := mo 35) (fun _ _ => rfl)
  rw [wa_self, wa_self] at this
  exact this
theorem or16 : ∀ z, z < 16 → ∀ g, g < 4 → ∃ k, k < 16 ∧ nI z ||| ((1 : Int32) <<< (nI g &&& 31)) = nI k := by decide +kernel
theorem or16b : ∀ z, z < 16 → ∀ g, g < 16 → ∃ k, k < 16 ∧ nI z ||| nI g = nI k := by decide +kernel
theorem ssend_set {G Fb : Nat} {kd pc wn fk fr sec : Row} {place reach code : Int32} (hp : PI G Fb kd pc wn fk fr sec) : ∀ (n g : Nat) (s : Int32) (r : Row), g + n = G → inN s 16 → inN (ssend kd pc wn sec Fb place reach code n g s r).1 16 := by
  intro n
  induction n with
  | zero => intro g s r _ h; exact h
  | succ n ih =>
    intro g s r hg h
    unfold ssend
    have hG := hp.1
    split
    · refine ih _ _ _ (by omega) ?_
      split
      · exact h
      · obtain ⟨z, hz, rfl⟩ := h
        exact or16 z hz g (by omega)
    · exact ih _ _ _ (by omega) h
theorem spress_set {G Fb f : Nat} {kd pc wn fk fr sec r : Row} {E place : Int32} (hp : PI G Fb kd pc wn fk fr sec) : inN (spress kd pc wn fk fr sec G Fb E f place r).1 16 := by
  unfold spress sby
  dsimp only
  split
  · obtain ⟨a, ha, ea⟩ := ssend_set (place := place) (reach := sreach fk fr f (upd r (10 + f) (r (10 + f) - 1))) (code := cd (sec f) (sstep fk f (upd r (10 + f) (r (10 + f) - 1)) (5 + f))) hp G 0 0 (sstep fk f (upd r (10 + f) (r (10 + f) - 1))) (by omega) ⟨0, by omega, rfl⟩
    dsimp only
    rw [ea]
    obtain ⟨b, hb, eb⟩ := ssend_set (place := place) (reach := sreach fk fr f (upd r (10 + f) (r (10 + f) - 1))) hp G 0 0 _ (by omega) ⟨0, by omega, rfl⟩
    rw [eb]
    exact or16b a ha b hb
  · exact ssend_set hp G 0 0 _ (by omega) ⟨0, by omega, rfl⟩
/-- what a press from a place would open, by both -/
theorem opens2 {G Fb : Nat} {σ : Mem} {mo : Grp} (h : INV G Fb (upM σ 11 0 mo)) {f p : Nat} (hf : f < Fb) (hp : p < 10) : ∃ (r : Nat) (X : Grp) (mo1 : Grp), r < 16 ∧ fX10_opensFrom σ (nI f) (nI p) = some (nI r, upM σ 7 1 X) ∧ fX11_opensFrom mo (nI f) (nI p) = some (nI r, mo1) ∧ INV G Fb (upM (upM σ 7 1 X) 11 0 mo1) := by
  have hF := h.1.1.2.2.2.1
  have hP : Pn G Fb (σ 4 0) mo := h.1
  have hS : SS G Fb (toRow (σ 7 0)) (mo 14) := h.2.1
  unfold fX10_opensFrom fX11_opensFrom
  obtain ⟨t, c1, c2⟩ := c_copy (σ 7 1) (σ 7 0)
  rw [c1, bd_e, lt_e, upM_same]
  have e4 : upM σ 7 1 t 4 0 = σ 4 0 := rfl
  rw [e4, ix10, ab_e (by omega) (by omega), nI_clamp (by omega)]
  by_cases hb : mo 14 (10 + f) = 0
  · rw [if_pos hb, c_pressed0 t (σ 4 0) (by omega) (by rw [c2, hS.1.1 _ (ok10 hF hf)]; exact hb), bd_e, lt_e, upM_upM]
    exact ⟨0, t, mo, by omega, rfl, rfl, INV_try0 h t⟩
  · have hRc := RR_RI hF hS.1 hS.2.1
    have hWc := RR_WC hS.1 hS.2.2.1
    obtain ⟨t', d1, d2⟩ := c_pressed t (σ 4 0) hf hP.1 (by rw [c2]; exact hRc) (by rw [c2]; exact hWc) (by rw [c2, hS.1.1 _ (ok10 hF hf)]; exact hb) (nI p) ⟨p, hp, rfl⟩
    rw [if_neg hb, d1, bd_e, lt_e, upM_upM, m_keepNow, bd_e, ab_e (by omega) (by omega), lt_e, nI_clamp (by omega), c2, hP.2.2.2.2.2.1]
    -- the model, with the place set
    have hg : wr (wa mo 35 (cpyN (mo 14) (mo 35) 59)) 14 f (nI p) = wa (wa mo 35 (cpyN (mo 14) (mo 35) 59)) 14 (upd (mo 14) f (nI p)) := by rw [wr_wa, wa_oth _ (show ¬ 14 = 35 by omega)]
    rw [hg]
    have hRm := RI_0 hF hS.2.1 (show f < 5 by omega) (⟨p, hp, rfl⟩ : inN (nI p) 10)
    have hWm : WC G (upd (mo 14) f (nI p)) := WC_upd hS.2.2.1 (by omega)
    have hMP : MP (wa (wa mo 35 (cpyN (mo 14) (mo 35) 59)) 14 (upd (mo 14) f (nI p))) G Fb := hP.2.1
    have em := m_press (wa (wa mo 35 (cpyN (mo 14) (mo 35) 59)) 14 (upd (mo 14) f (nI p))) hf hMP (by rw [wa_row]; exact hRm) (by rw [wa_row]; exact hWm) (by rw [wa_row, upd_ne (by omega)]; exact hb)
    have g14 : (wa (wa mo 35 (cpyN (mo 14) (mo 35) 59)) 14 (upd (mo 14) f (nI p))) 14 = upd (mo 14) f (nI p) := wa_row _ _ _
    have g5 : (wa (wa mo 35 (cpyN (mo 14) (mo 35) 59)) 14 (upd (mo 14) f (nI p))) 5 = mo 5 := rfl
    have g6 : (wa (wa mo 35 (cpyN (mo 14) (mo 35) 59)) 14 (upd (mo 14) f (nI p))) 6 = mo 6 := rfl
    have g7 : (wa (wa mo 35 (cpyN (mo 14) (mo 35) 59)) 14 (upd (mo 14) f (nI p))) 7 = mo 7 := rfl
    have g9 : (wa (wa mo 35 (cpyN (mo 14) (mo 35) 59)) 14 (upd (mo 14) f (nI p))) 9 = mo 9 := rfl
    have g11 : (wa (wa mo 35 (cpyN (mo 14) (mo 35) 59)) 14 (upd (mo 14) f (nI p))) 11 = mo 11 := rfl
    have g12 : (wa (wa mo 35 (cpyN (mo 14) (mo 35) 59)) 14 (upd (mo 14) f (nI p))) 12 = mo 12 := rfl
    have g0 : (wa (wa mo 35 (cpyN (mo 14) (mo 35) 59)) 14 (upd (mo 14) f (nI p))) 0 = mo 0 := rfl
    rw [g14, g5, g6, g7, g9, g11, g12, g0, upd_at, wa_wa] at em
    have cq := cq_press hP.2.1.2.2 (AG_self hP) (mo 0 2) (nI p) (RQ_0 (RQ_of hS.1) (show f < 5 by omega) (nI p)) hRm hWm hf (by rw [upd_ne (by omega)]; exact hb)
    rw [← cq.1] at em
    rw [em, bd_e, m_putBack, bd_e]
    obtain ⟨r, hr, er⟩ := spress_set (f := f) (r := toRow (σ 7 0)) (E := mo 0 2) (place := nI p) hP.1.2.2
    rw [er]
    refine ⟨r, t', _, hr, rfl, rfl, ?_⟩
    dsimp only
    rw [wa_wa, wa_oth _ (show ¬ 35 = 14 by omega), wa_row]
    refine INV_try h t' (fun i hi => ?_)
    simp [cpyN, hi]
theorem bits16 : ∀ r, r < 16 → ∃ k, k < 5 ∧ fJ6_bitCount_0f7a4 (nI r) = some (nI k) ∧ fX11_bits (nI r) = some (nI k) := by decide +kernel
theorem best2 {G Fb f : Nat} (hf : f < Fb) : ∀ (n p fu : Nat) (σ : Mem) (mo : Grp) (b m : Int32), p + n = 10 → n + 1 ≤ fu → INV G Fb (upM σ 11 0 mo) → ∃ (r : Int32) (σ1 : Mem) (mo1 : Grp), fX10_bestPlace_7 fu σ (nI f) b m (nI p) = some (r, σ1) ∧ σ1 11 0 = σ 11 0 ∧ fX11_bestPlace_7 fu mo (nI f) b m (nI p) = some (r, mo1) ∧ INV G Fb (upM σ1 11 0 mo1) := by
  intro n
  induction n with
  | zero =>
    intro p fu σ mo b m hp hfu h
    obtain ⟨fu, rfl⟩ : ∃ z, fu = z + 1 := ⟨fu - 1, by omega⟩
    obtain rfl : p = 10 := by omega
    rw [fX10_bestPlace_7, fX11_bestPlace_7, if_neg (show ¬ nI 10 < 10 by decide), if_neg (show ¬ nI 10 < 10 by decide)]
    exact ⟨_, _, _, rfl, rfl, rfl, h⟩
  | succ n ih =>
    intro p fu σ mo b m hp hfu h
    obtain ⟨fu, rfl⟩ : ∃ z, fu = z + 1 := ⟨fu - 1, by omega⟩
    obtain ⟨r, X, mo1, hr, e1, e2, hI⟩ := opens2 h hf (show p < 10 by omega)
    obtain ⟨k, hk, b1, b2⟩ := bits16 r hr
    have hlt : nI p < 10 := nI_lt (b := 10) (by omega) (by omega)
    rw [fX10_bestPlace_7, fX11_bestPlace_7, if_pos hlt, if_pos hlt, e1, e2, bd_e, bd_e, b1, b2, bd_e, bd_e]
    simp only [lt_e, ix1]
    by_cases hm : nI k ≤ m
    · rw [if_pos hm, if_pos hm, if_pos hm]
      obtain ⟨r', σ2, mo2, a1, a2, a3, a4⟩ := ih (p + 1) fu _ _ b m (by omega) (by omega) hI
      exact ⟨r', σ2, mo2, a1, a2, a3, a4⟩
    · rw [if_neg hm, if_neg hm, if_neg hm]
      obtain ⟨r', σ2, mo2, a1, a2, a3, a4⟩ := ih (p + 1) fu _ _ (nI p) (nI k) (by omega) (by omega) hI
      exact ⟨r', σ2, mo2, a1, a2, a3, a4⟩
theorem INV_self {G Fb : Nat} {σ : Mem} (h : INV G Fb σ) : INV G Fb (upM σ 11 0 (σ 11 0)) := by rw [upM_self]; exact h
theorem w_wouldOpen {G Fb : Nat} {σ : Mem} (h : INV G Fb σ) (x y : Int32) : SW (fX10_wouldOpen σ x y) (fX11_wouldOpen (σ 11 0) x y) σ := by
  have hF := h.1.1.2.2.2.1
  unfold fX10_wouldOpen fX11_wouldOpen fX10_wouldOpen_29
  rcases fobs2 h.1 x with ⟨f, hf, rfl, a1, a2⟩ | ⟨a1, a2⟩
  · rw [a1, a2, bd_e, bd_e, if_neg i10, if_neg i10]
    have fin : ∀ p, p < 10 → SW (fX10_wouldOpen_49 σ (nI f) (nI p)) (fX11_wouldOpen_45 (σ 11 0) (nI f) (nI p)) σ := by
      intro p hp
      unfold fX10_wouldOpen_49 fX11_wouldOpen_45
      obtain ⟨r, X, mo1, hr, e1, e2, hI⟩ := opens2 (INV_self h) hf hp
      rw [e1, e2, bd_e, bd_e]
      exact ⟨_, _, _, rfl, rfl, rfl, G, Fb, hI⟩
    have hin : fX11_in y.toInt64 (-1 : Int64) (9 : Int64) = some (if -1 ≤ y ∧ y ≤ 9 then 1 else 0) := m_in y (-1) 9
    by_cases hy : y = -1
    · subst hy
      rw [if_pos rfl, if_pos rfl, hin, bd_e, if_neg (by decide), if_pos rfl, ab_e (by omega) (by omega), ab_e (by omega) (by omega), nI_clamp (by omega), ← tr0 (by omega) (σ 7 0), h.2.1.1.1 _ (ok0 hF hf)]
      obtain ⟨p, hp, ep⟩ := h.2.1.2.1.2.2.2.2.1 f hf
      rw [ep]
      exact fin p hp
    · rw [if_neg hy, if_neg hy, if_neg hy]
      rcases place2 y with ⟨p, hp, rfl, b1, b2⟩ | ⟨b1, b2⟩
      · have hc : (-1 : Int32) ≤ nI p ∧ nI p ≤ 9 := ⟨Int32.le_trans (by decide) (nI_pos' (by omega)), nI_le (b := 9) (by omega) (by omega)⟩
        rw [b1, bd_e, if_neg i10, hin, if_pos hc, bd_e, if_neg i10]
        exact fin p hp
      · have hc : ¬ ((-1 : Int32) ≤ y ∧ y ≤ 9) := by
          rintro ⟨c1, c2⟩
          unfold fX10_isPlace at b1
          have h0 : ¬ y < 0 := by
            intro hneg
            apply hy
            apply Int32.le_antisymm _ c1
            have q1 := Int32.lt_iff_toInt_lt.mp hneg
            rw [Int32.le_iff_toInt_le, show (-1 : Int32).toInt = -1 from rfl]
            rw [show (0 : Int32).toInt = 0 from rfl] at q1
            omega
          rw [if_neg h0, if_pos (show y < 10 from (le_lt (n := 9) (by omega)).mp c2)] at b1
          exact absurd (Option.some.inj b1) (by decide)
        exact SW_no h (by rw [b1, bd_e, if_pos i00]) (by rw [hin, if_neg hc, bd_e, if_pos i00])
  · exact SW_no h (by rw [a1, bd_e, if_pos i00]) (by rw [a2, bd_e, if_pos i00])
theorem w_fob {G Fb : Nat} {σ : Mem} (h : INV G Fb σ) (x y : Int32) : SW (fX10_fob σ x y) (fX11_fob (σ 11 0) x y) σ := by
  have hF := h.1.1.2.2.2.1
  unfold fX10_fob fX11_fob
  rcases fobs2 h.1 x with ⟨f, hf, rfl, a1, a2⟩ | ⟨a1, a2⟩
  · rw [a1, a2, bd_e, bd_e, if_neg i10, if_neg i10]
    have hag := h.1.2.2.1.2 f hf
    simp (disch := omega) only [ix5a, ix10, ab_e, nI_clamp]
    by_cases c0 : y = 0
    · rw [if_pos c0, if_pos c0]; exact SW_no h rfl (by rw [hag.1])
    rw [if_neg c0, if_neg c0]
    by_cases c1 : y = 1
    · rw [if_pos c1, if_pos c1]; exact SW_no h rfl (by rw [← tr0 (by omega) (σ 7 0), h.2.1.1.1 _ (ok0 hF hf)])
    rw [if_neg c1, if_neg c1]
    by_cases c2 : y = 2
    · rw [if_pos c2, if_pos c2]; exact SW_no h rfl (by rw [hag.2.1])
    rw [if_neg c2, if_neg c2]
    by_cases c3 : y = 3
    · rw [if_pos c3, if_pos c3]; exact SW_no h rfl (by rw [hag.2.2])
    rw [if_neg c3, if_neg c3]
    by_cases c4 : y = 4
    · rw [if_pos c4, if_pos c4]; exact SW_no h rfl (by rw [← tr5 (by omega) (σ 7 0), h.2.1.1.1 _ (ok5 hF hf)])
    rw [if_neg c4, if_neg c4]
    by_cases c5 : y = 5
    · rw [if_pos c5, if_pos c5]; exact SW_no h rfl (by rw [← tr10 (by omega) (σ 7 0), h.2.1.1.1 _ (ok10 hF hf)])
    rw [if_neg c5, if_neg c5]
    by_cases c6 : y = 6
    · rw [if_pos c6, if_pos c6]
      obtain ⟨r, σ1, mo1, e1, e2, e3, hI⟩ := best2 hf 10 0 1000 σ (σ 11 0) 0 0 (by omega) (by omega) (INV_self h)
      rw [show nI 0 = (0 : Int32) from rfl] at e1 e3
      unfold fX10_bestPlace fX11_bestPlace
      rw [e1, e3, bd_e, bd_e]
      exact ⟨_, _, _, rfl, e2, rfl, G, Fb, hI⟩
    · rw [if_neg c6, if_neg c6]
      exact SW_no h rfl rfl
  · exact SW_no h (by rw [a1, bd_e, if_pos i00]) (by rw [a2, bd_e, if_pos i00])
