/-! locked out -/
def stn (fk : Row) (f : Nat) : Nat := if fk f = 3 then 0 else if fk f = 1 then 2 else 1
theorem c_unheard {G : Nat} (sc pl : Grp) {Fb f k : Nat} (hF : Fb ≤ 5) (hf : f < Fb) (hk : k ≤ 60) (hR : RI G Fb (toRow sc)) {c : Nat} (hc : c < 10000) (ec : toRow sc (5 + f) = nI c) : ∃ sc', fX7_pressedUnheard sc pl (nI f) (nI k) = some sc' ∧ toRow sc' = upd (toRow sc) (5 + f) (nI ((c + k * stn (pl 9) f) % 10000)) := by
  unfold fX7_pressedUnheard
  rw [ab_e (by omega) (by omega), c_sendings pl (by omega), bd_e, c_stride pl (by omega), bd_e, ab_e (by omega) (by omega), lt_e, nI_clamp (by omega), ← tr5 (by omega) sc, ec]
  refine ⟨_, rfl, ?_⟩
  rw [tw5 (by omega)]
  congr 1
  unfold stn
  by_cases h3 : pl 9 f = 3
  · have h1 : ¬ pl 9 f = 1 := by rw [h3]; decide
    rw [if_pos h3, if_pos h3, if_neg h1, Int32.mul_zero, Int32.add_zero, jrem_10000 (by omega), Nat.mul_zero, Nat.add_zero]
  · rw [if_neg h3, if_neg h3]
    by_cases h1 : pl 9 f = 1
    · rw [if_pos h1, if_pos h1, Int32.mul_one, show (2 : Int32) = nI 2 from rfl, nI_mul, nI_add, jrem_10000 (by omega)]
    · rw [if_neg h1, if_neg h1, Int32.mul_one, Int32.mul_one, Nat.mul_one, nI_add, jrem_10000 (by omega)]
theorem m_lock42 (mo : Grp) {Fb f : Nat} (hF : Fb ≤ 5) (hf : f < Fb) (g x : Int32) {c : Nat} (hc : c < 10000) (ec : mo 14 (5 + f) = nI c) {k : Nat} (hk : k ≤ 60) : ∀ (n j fu : Nat), j + n = k → n + 1 ≤ fu → fX11_locked_42 fu (wa mo 14 (upd (mo 14) (5 + f) (nI ((c + j * stn (mo 9) f) % 10000)))) g (nI f) (nI k) (nI j) = some (g, nI f, nI k, wa mo 14 (upd (mo 14) (5 + f) (nI ((c + k * stn (mo 9) f) % 10000)))) := by
  intro n
  induction n with
  | zero =>
    intro j fu hj hfu
    obtain ⟨fu, rfl⟩ : ∃ z, fu = z + 1 := ⟨fu - 1, by omega⟩
    obtain rfl : j = k := by omega
    rw [fX11_locked_42, if_neg (nI_nlt (by omega) (by omega))]
  | succ n ih =>
    intro j fu hj hfu
    obtain ⟨fu, rfl⟩ : ∃ z, fu = z + 1 := ⟨fu - 1, by omega⟩
    have next := ih (j + 1) fu (by omega) (by omega)
    have hst : stn (mo 9) f ≤ 2 := by unfold stn; split; omega; split <;> omega
    have hb : (c + j * stn (mo 9) f) % 10000 < 10000 := Nat.mod_lt _ (by omega)
    have upd2 : ∀ (a b : Int32), upd (upd (mo 14) (5 + f) a) (5 + f) b = upd (mo 14) (5 + f) b := by
      intro a b
      funext i
      by_cases e : i = 5 + f
      · rw [e, upd_at, upd_at]
      · rw [upd_ne e, upd_ne e, upd_ne e]
    have inc : ∀ z : Nat, z < 10000 → jrem (nI z + 1) 10000 = nI ((z + 1) % 10000) := by
      intro z hz
      rw [ix1, jrem_10000 (by omega)]
    rw [fX11_locked_42, if_pos (nI_lt (by omega) (by omega)), m_step _ hF hf, bd_e, wa_row, wa_wa]
    simp (disch := omega) only [ix5a, ab_e, nI_clamp, lt_e, ix1, wa_oth _ (show ¬ 9 = 14 by omega), wr_wa, wa_row, wa_wa]
    unfold sstep
    rw [upd_at]
    by_cases h3 : mo 9 f = 3
    · have h1 : ¬ mo 9 f = 1 := by rw [h3]; decide
      rw [if_neg h1, if_pos h3, upd_at, upd2]
      have e0 : stn (mo 9) f = 0 := by unfold stn; rw [if_pos h3]
      rw [e0, Nat.mul_zero] at next ⊢
      rw [Nat.mul_zero] at next
      exact next
    · rw [if_neg h3, upd2, inc _ hb, upd_at]
      by_cases h1 : mo 9 f = 1
      · have e2 : stn (mo 9) f = 2 := by unfold stn; rw [if_neg h3, if_pos h1]
        rw [if_pos h1, upd2, inc _ (Nat.mod_lt _ (by omega))]
        rw [e2] at next ⊢
        rw [show ((c + j * 2) % 10000 + 1) % 10000 + 1 = ((c + j * 2) % 10000 + 1) % 10000 + 1 from rfl]
        rw [show (((c + j * 2) % 10000 + 1) % 10000 + 1) % 10000 = (c + (j + 1) * 2) % 10000 from by omega]
        exact next
      · have e1 : stn (mo 9) f = 1 := by unfold stn; rw [if_neg h3, if_neg h1]
        rw [if_neg h1, upd2]
        rw [e1] at next ⊢
        rw [show ((c + j * 1) % 10000 + 1) % 10000 = (c + (j + 1) * 1) % 10000 from by omega]
        exact next
theorem lock2 {G Fb g f : Nat} (hg : g < G) (hf : f < Fb) {σ : Mem} {mo : Grp} (hP : Pn G Fb (σ 4 0) mo) (hS : S3 G Fb (toRow (σ 7 0)) (mo 14)) : ∀ (n k fu : Nat) (sc : Grp) (r B : Row), k + n = 61 → n + 2 ≤ fu → E59 r (mo 14) → E59 B (mo 14) → ∃ (res : Int32) (X : Grp) (r' : Row), fX10_locked_14 fu (upM σ 7 1 sc) (nI g) (nI f) (nI k) = some (res, upM σ 7 1 X) ∧ fX11_locked_28 fu (wa (wa mo 35 B) 14 r) (nI g) (nI f) (-1) (nI k) = some (res, wa (wa mo 35 B) 14 r') ∧ E59 r' (mo 14) := by
  have hF := hP.1.2.2.2.1
  intro n
  induction n with
  | zero =>
    intro k fu sc r B hk hfu hr hB
    obtain ⟨fu, rfl⟩ : ∃ z, fu = z + 1 := ⟨fu - 1, by omega⟩
    obtain rfl : k = 61 := by omega
    rw [fX10_locked_14, fX11_locked_28, if_neg (show ¬ nI 61 ≤ 60 by decide), if_neg (show ¬ nI 61 ≤ 60 by decide)]
    exact ⟨_, sc, r, rfl, rfl, hr⟩
  | succ n ih =>
    intro k fu sc r B hk hfu hr hB
    obtain ⟨fu, rfl⟩ : ∃ z, fu = z + 1 := ⟨fu - 1, by omega⟩
    have hle : nI k ≤ 60 := nI_le (b := 60) (by omega) (by omega)
    obtain ⟨c, hc, ec⟩ := hS.2.1.2.2.2.2.2.2.1 f hf
    have hRc := RR_RI hF hS.1 hS.2.1
    obtain ⟨t, c1, c2⟩ := c_copy sc (σ 7 0)
    obtain ⟨t2, c3, c4⟩ := c_unheard t (σ 4 0) (k := k) hF hf (by omega) (by rw [c2]; exact hRc) hc (by rw [c2, hS.1.1 _ (ok5 hF hf)]; exact ec)
    rw [c2] at c4
    have em := m_lock42 (wa (wa mo 35 B) 14 r) hF hf (nI g) 0 hc (by rw [wa_row, hr _ (by omega)]; exact ec) (k := k) (by omega) k 0 1000 (by omega) (by omega)
    have hst : stn ((wa (wa mo 35 B) 14 r) 9) f = stn (σ 4 0 9) f := by
      show stn (mo 9) f = stn (σ 4 0 9) f
      unfold stn
      rw [(hP.2.2.1.2 f hf).1]
    rw [Nat.zero_mul, Nat.add_zero, Nat.mod_eq_of_lt hc, wa_row, show nI c = r (5 + f) from by rw [hr _ (by omega)]; exact ec.symm, upd_self, wa_wa, wa_wa, hst] at em
    have hS2 : S3 G Fb (toRow t2) (upd r (5 + f) (nI ((c + k * stn (σ 4 0 9) f) % 10000))) := by
      rw [c4]
      have hRr := E59_RI hF hr hS.2.1
      have hWr := E59_WC hr hS.2.2
      exact ⟨RR_upd (E59_RR hr hS.1) (by omega) (by omega) _, RI_5 hF hRr (by omega) ⟨_, Nat.mod_lt _ (by omega), rfl⟩, WC_upd hWr (by omega)⟩
    obtain ⟨b, sc', rm, hb, e1, e2, hS'⟩ := bes2 (mo := wa (wa mo 35 B) 14 (upd r (5 + f) (nI ((c + k * stn (σ 4 0 9) f) % 10000)))) (sc := t2) (pl := σ 4 0) hP (by rw [wa_row]; exact hS2) hg hf
    rw [wa_wa] at e2
    have hpb : fX11_putBack (wa (wa mo 35 B) 14 rm) = some (wa (wa mo 35 B) 14 (cpyN B rm 59)) := by
      rw [m_putBack, wa_wa, wa_oth _ (show ¬ 35 = 14 by omega), wa_row, wa_row]
    have hE : E59 (cpyN B rm 59) (mo 14) := fun i hi => by
      have : cpyN B rm 59 i = B i := by simp [cpyN, hi]
      rw [this]; exact hB i hi
    have g70 : upM σ 7 1 sc 7 0 = σ 7 0 := up7 (by omega)
    have g71 : ∀ z : Grp, upM σ 7 1 z 7 1 = z := fun z => upM_same _ _ _ _
    have g4 : ∀ z : Grp, upM σ 7 1 z 4 0 = σ 4 0 := fun z => rfl
    rw [fX10_locked_14, fX11_locked_28, if_pos hle, if_pos hle, if_pos (show (-1 : Int32) < 0 by decide), g70, g71, c1, bd_e, lt_e, upM_upM, g71, g4, c3, bd_e, lt_e, upM_upM, g71, g4, e1, bd_e, lt_e, upM_upM]
    rw [show nI 0 = (0 : Int32) from rfl] at em
    rw [em, bd_e]
    dsimp only
    simp only [e2, bd_e, lt_e, hpb, ix1]
    rcases hb with rfl | rfl
    · rw [if_pos i00, if_pos i00]
      obtain ⟨fu, rfl⟩ : ∃ z, fu = z + 1 := ⟨fu - 1, by omega⟩
      refine ⟨_, sc', cpyN B rm 59, rfl, ?_, hE⟩
      unfold fX11_locked_28
      rw [if_neg (show ¬ nI k < 0 from nI_pos (by omega))]
      by_cases hq : nI (k + 1) ≤ 60
      · rw [if_pos hq]
      · rw [if_neg hq]
    · rw [if_neg i10, if_neg i10]
      exact ih (k + 1) fu sc' (cpyN B rm 59) B (by omega) (by omega) hE hB
theorem w_locked {G Fb : Nat} {σ : Mem} (h : INV G Fb σ) (x y : Int32) : SW (fX10_locked σ x y) (fX11_locked (σ 11 0) x y) σ := by
  unfold fX10_locked fX11_locked
  rcases known2 h.1 x y with ⟨g, f, hg, hf, rfl, rfl, a1, a2, a3⟩ | ⟨a1, a2⟩
  · rw [a1, a2, bd_e, bd_e, if_neg i10, if_neg i10, a3, bd_e, if_neg i10, m_keepNow, bd_e]
    obtain ⟨res, X, r', e1, e2, hE⟩ := lock2 (σ := σ) (mo := σ 11 0) hg hf h.1 ⟨h.2.1.1, h.2.1.2.1, h.2.1.2.2.1⟩ 61 0 1000 (σ 7 1) (σ 11 0 14) (cpyN (σ 11 0 14) (σ 11 0 35) 59) (by omega) (by omega) (fun _ _ => rfl) (E59_cpy _ _)
    rw [upM_self, show nI 0 = (0 : Int32) from rfl] at e1
    rw [show wa (wa (σ 11 0) 35 (cpyN (σ 11 0 14) (σ 11 0 35) 59)) 14 (σ 11 0 14) = wa (σ 11 0) 35 (cpyN (σ 11 0 14) (σ 11 0 35) 59) from wa_self (wa (σ 11 0) 35 (cpyN (σ 11 0 14) (σ 11 0 35) 59)) 14, show nI 0 = (0 : Int32) from rfl] at e2
    rw [e1, e2]
    exact ⟨_, _, _, rfl, rfl, rfl, G, Fb, INV_try (INV_self h) X hE⟩
  · refine SW_no h (r := -1000000001) (by rw [a1, bd_e, if_pos i00]) ?_
    rcases a2 with a2 | ⟨a2, a3⟩
    · rw [a2, bd_e, if_pos i00]
    · rw [a2, bd_e, if_neg i10, a3, bd_e, if_pos i00]
/-! which kept codes would open a gate -/
theorem useful2 {G Fb g K : Nat} (hg : g < G) {σ : Mem} {mo : Grp} (hP : Pn G Fb (σ 4 0) mo) (hS : S3 G Fb (toRow (σ 7 0)) (mo 14)) (hK : K ≤ 8) (eK : mo 14 16 = nI K) : ∀ (n i fu : Nat) (sc : Grp) (r B : Row) (s : Int32), i + n = K → n + 1 ≤ fu → E59 r (mo 14) → ∃ (res : Int32) (X : Grp) (r' B' : Row), fX10_usefulAt_4 fu (upM σ 7 1 sc) (nI g) s (nI i) = some (res, upM σ 7 1 X) ∧ fX11_usefulAt_4 fu (wa (wa mo 35 B) 14 r) (nI g) s (nI i) = some (res, wa (wa mo 35 B') 14 r') ∧ E59 r' (mo 14) := by
  have hF := hP.1.2.2.2.1
  have g70 : ∀ z : Grp, upM σ 7 1 z 7 0 = σ 7 0 := fun z => up7 (by omega)
  have g71 : ∀ z : Grp, upM σ 7 1 z 7 1 = z := fun z => upM_same _ _ _ _
  have g4 : ∀ z : Grp, upM σ 7 1 z 4 0 = σ 4 0 := fun z => rfl
  have e16 : σ 7 0 0 4 = nI K := by rw [← tr16 (σ 7 0), hS.1.1 _ ok16, eK]
  intro n
  induction n with
  | zero =>
    intro i fu sc r B s hi hfu hr
    obtain ⟨fu, rfl⟩ : ∃ z, fu = z + 1 := ⟨fu - 1, by omega⟩
    rw [fX10_usefulAt_4, fX11_usefulAt_4, g70, e16, ab_l (by decide) (by decide), show (16 : Int32).toNatClampNeg = 16 from rfl, wa_row, hr _ (by omega), eK, if_neg (nI_nlt (by omega) (by omega)), if_neg (nI_nlt (by omega) (by omega))]
    exact ⟨_, sc, r, B, rfl, rfl, hr⟩
  | succ n ih =>
    intro i fu sc r B s hi hfu hr
    obtain ⟨fu, rfl⟩ : ∃ z, fu = z + 1 := ⟨fu - 1, by omega⟩
    obtain ⟨t, c1, c2⟩ := c_copy sc (σ 7 0)
    have hRc := RR_RI hF hS.1 hS.2.1
    have hcode : σ 7 0 6 i = mo 14 (17 + i) := by rw [← tr17 (by omega) (σ 7 0), hS.1.2 i (by omega) (by rw [eK]; exact nI_lt (by omega) (by omega))]
    obtain ⟨t2, c3, c4⟩ := c_hears t (σ 4 0) hg hP.1 (by rw [c2]; exact hRc) (mo 14 (17 + i))
    rw [c2] at c3 c4
    have hRr := E59_RI hF hr hS.2.1
    have em := m_hears (wa (wa mo 35 (cpyN r B 59)) 14 r) hg (MP_row (show MP (wa mo 35 (cpyN r B 59)) G Fb from hP.2.1) r) (by rw [wa_row]; exact hRr) (mo 14 (17 + i))
    have g5 : (wa (wa mo 35 (cpyN r B 59)) 14 r) 5 = mo 5 := rfl
    have g7 : (wa (wa mo 35 (cpyN r B 59)) 14 r) 7 = mo 7 := rfl
    have g12 : (wa (wa mo 35 (cpyN r B 59)) 14 r) 12 = mo 12 := rfl
    rw [wa_row, g5, g7, g12, wa_wa] at em
    have cg := cg_hears hP.2.1.2.2 (AG_self hP) (E59_RR hr hS.1) hRr hg (mo 14 (17 + i))
    rw [← cg.1] at em
    have hkn : fX11_keepNow (wa (wa mo 35 B) 14 r) = some (wa (wa mo 35 (cpyN r B 59)) 14 r) := by
      rw [m_keepNow, wa_row, wa_oth _ (show ¬ 35 = 14 by omega), wa_row]
      congr 1
      funext j
      by_cases h35 : j = 35
      · subst h35; simp [wa]
      · by_cases h14 : j = 14
        · subst h14; simp [wa]
        · simp [wa, h35, h14]
    have hpb : ∀ rm : Row, fX11_putBack (wa (wa mo 35 (cpyN r B 59)) 14 rm) = some (wa (wa mo 35 (cpyN r B 59)) 14 (cpyN (cpyN r B 59) rm 59)) := by
      intro rm
      rw [m_putBack, wa_wa, wa_oth _ (show ¬ 35 = 14 by omega), wa_row, wa_row]
    have hE : ∀ rm : Row, E59 (cpyN (cpyN r B 59) rm 59) (mo 14) := fun rm j hj => by
      have : cpyN (cpyN r B 59) rm 59 j = r j := by simp [cpyN, hj]
      rw [this]; exact hr j hj
    have hlt : nI i < nI K := nI_lt (by omega) (by omega)
    rw [fX10_usefulAt_4, fX11_usefulAt_4, g70, e16, ab_l (by decide) (by decide), show (16 : Int32).toNatClampNeg = 16 from rfl]
    simp only [wa_row]
    rw [hr 16 (by omega), eK, if_pos hlt, if_pos hlt, g71, c1, bd_e, lt_e, upM_upM, ab_e (by omega) (by omega), g71, g4, g70, nI_clamp (by omega), hcode, c3, bd_e, lt_e, upM_upM, hkn, bd_e, ix17, ab_e (by omega) (by omega), nI_clamp (by omega), wa_row, hr (17 + i) (by omega), em, bd_e]
    dsimp only
    by_cases hz : (shears (σ 4 0 6) (σ 4 0 8) (σ 4 0 12) Fb (toRow (σ 7 0)) g (mo 14 (17 + i))).1 = 0
    · rw [if_pos hz, if_pos hz]
      simp only [lt_e, hpb, bd_e, ix1, Int32.or_zero]
      exact ih (i + 1) fu t2 _ _ s (by omega) (by omega) (hE _)
    · rw [if_neg hz, if_neg hz]
      simp only [lt_e, hpb, bd_e, ix1]
      exact ih (i + 1) fu t2 _ _ _ (by omega) (by omega) (hE _)
theorem w_gate {G Fb : Nat} {σ : Mem} (h : INV G Fb σ) (x y : Int32) : SW (fX10_gate σ x y) (fX11_gate (σ 11 0) x y) σ := by
  have hF := h.1.1.2.2.2.1
  have hG := h.1.1.2.2.1
  unfold fX10_gate fX11_gate
  rcases gates2 h.1 x with ⟨g, hg, rfl, a1, a2⟩ | ⟨a1, a2⟩
  · rw [a1, a2, bd_e, bd_e, if_neg i10, if_neg i10]
    have hag := h.1.2.2.1.1 g hg
    simp (disch := omega) only [ix26, ix30, ix34, ab_e, nI_clamp]
    by_cases c0 : y = 0
    · rw [if_pos c0, if_pos c0]; exact SW_no h rfl (by rw [hag.1])
    rw [if_neg c0, if_neg c0]
    by_cases c1 : y = 1
    · rw [if_pos c1, if_pos c1]; exact SW_no h rfl (by rw [hag.2.1])
    rw [if_neg c1, if_neg c1]
    by_cases c2 : y = 2
    · rw [if_pos c2, if_pos c2]; exact SW_no h rfl (by rw [hag.2.2])
    rw [if_neg c2, if_neg c2]
    by_cases c3 : y = 3
    · rw [if_pos c3, if_pos c3]; exact SW_no h rfl (by rw [← tr26 (by omega) (σ 7 0), h.2.1.1.1 _ (ok26 (by omega))])
    rw [if_neg c3, if_neg c3]
    by_cases c4 : y = 4
    · rw [if_pos c4, if_pos c4]; exact SW_no h rfl (by rw [← tr30 (by omega) (σ 7 0), h.2.1.1.1 _ (ok30 (by omega))])
    rw [if_neg c4, if_neg c4]
    by_cases c5 : y = 5
    · rw [if_pos c5, if_pos c5]; exact SW_no h rfl (by rw [← tr34 (by omega) (σ 7 0), h.2.1.1.1 _ (ok34 (by omega))])
    rw [if_neg c5, if_neg c5]
    by_cases c6 : y = 6
    · rw [if_pos c6, if_pos c6]
      obtain ⟨K, hK, eK⟩ := h.2.1.2.1.2.2.1
      obtain ⟨res, X, r', B', e1, e2, hE⟩ := useful2 (σ := σ) (mo := σ 11 0) hg h.1 ⟨h.2.1.1, h.2.1.2.1, h.2.1.2.2.1⟩ (K := K) (by omega) eK K 0 1000 (σ 7 1) (σ 11 0 14) (σ 11 0 35) 0 (by omega) (by omega) (fun _ _ => rfl)
      rw [upM_self, show nI 0 = (0 : Int32) from rfl] at e1
      rw [wa_self, wa_self, show nI 0 = (0 : Int32) from rfl] at e2
      unfold fX10_usefulAt fX11_usefulAt
      rw [e1, e2, bd_e, bd_e]
      exact ⟨_, _, _, rfl, rfl, rfl, G, Fb, INV_try (INV_self h) X hE⟩
    · rw [if_neg c6, if_neg c6]
      exact SW_no h rfl rfl
  · exact SW_no h (by rw [a1, bd_e, if_pos i00]) (by rw [a2, bd_e, if_pos i00])
