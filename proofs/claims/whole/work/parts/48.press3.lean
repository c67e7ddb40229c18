theorem jrem_id {c : Int32} (h : inN c 10000) : jrem c 10000 = c := by
  obtain ⟨k, hk, rfl⟩ := h
  rw [jrem_10000 (by omega), Nat.mod_eq_of_lt hk]
theorem upd_self (r : Row) (i : Nat) : upd r i (r i) = r := by
  funext j
  by_cases e : j = i
  · rw [e, upd_at]
  · rw [upd_ne e]
theorem c_stride (pl : Grp) {f : Nat} (hf : f < 5) : fX4_stride pl (nI f) = some (if pl 9 f = 3 then 0 else 1) := by
  unfold fX4_stride
  simp (disch := omega) only [ab_e, nI_clamp]
  split <;> rfl
theorem c_sendings (pl : Grp) {f : Nat} (hf : f < 5) : fX4_sendings pl (nI f) = some (if pl 9 f = 1 then 2 else 1) := by
  unfold fX4_sendings
  simp (disch := omega) only [ab_e, nI_clamp]
  split <;> rfl
theorem c_ahead (sc pl : Grp) {f : Nat} (hf : f < 5) (k : Int32) : fX7_codeAhead sc pl (nI f) k = some (cd (pl 12 f) (jrem (toRow sc (5 + f) + k) 10000)) := by
  unfold fX7_codeAhead
  simp (disch := omega) only [ab_e, nI_clamp]
  rw [tr5 hf]
  rfl
theorem c_next {G : Nat} (sc pl : Grp) {f Fb : Nat} (hF : Fb ≤ 5) (hf : f < Fb) (hR : RI G Fb (toRow sc)) (hW : WC G (toRow sc)) : ∃ sc', fX7_nextCode sc pl (nI f) = some (cd (pl 12 f) (sstep (pl 9) f (toRow sc) (5 + f)), sc') ∧ toRow sc' = sstep (pl 9) f (toRow sc) := by
  have hc := hR.2.2.2.2.2.2.1 f hf
  have hrow : toRow (wr sc 8 f (jrem (sc 8 f + (if pl 9 f = 3 then 0 else 1)) 10000)) = sstep (pl 9) f (toRow sc) := by
    rw [tw5 (by omega), ← tr5 (by omega) sc]
    unfold sstep
    by_cases h : pl 9 f = 3
    · rw [if_pos h, if_pos h, Int32.add_zero, jrem_id hc, upd_self]
    · rw [if_neg h, if_neg h]
  have hs := RI_step (fk := pl 9) hF hf hR hW
  unfold fX7_nextCode
  rw [ab_e (by omega) (by omega), c_stride pl (by omega), bd_e, ab_e (by omega) (by omega), lt_e, nI_clamp (by omega), c_ahead _ pl (by omega), bd_e, hrow, Int32.add_zero, jrem_id (hs.1.2.2.2.2.2.2.1 f hf)]
  exact ⟨_, rfl, hrow⟩
theorem c_range (sc pl : Grp) {f : Nat} (hf : f < 5) : fX7_rangeNow sc pl (nI f) = some (sreach (pl 9) (pl 11) f (toRow sc)) := by
  unfold fX7_rangeNow fX7_rangeNow_28 fX7_rangeNow_29 sreach
  simp (disch := omega) only [ab_e, nI_clamp, ↓reduceIte]
  rw [tr10 hf, if_neg (show ¬ (1 : Int32) = 0 by decide)]
  by_cases h : pl 9 f = 2
  · rw [if_pos h]
    by_cases h2 : sc 9 f < 20
    · rw [if_pos h2, if_pos ⟨h, h2⟩]
    · rw [if_neg h2, if_neg (fun e => h2 e.2)]
  · rw [if_neg h, if_neg (fun e => h e.1)]
theorem c_press33 (pl : Grp) {G Fb f : Nat} (hf : f < Fb) (hM : CP pl G Fb) (place reach : Int32) (hp : inN place 10) (sc : Grp) (s x : Int32) (hR : RI G Fb (toRow sc)) (hW : WC G (toRow sc)) (fu : Nat) (hx : x < (if pl 9 f = 1 then 2 else 1)) :
    ∃ sc', fX7_pressedFrom_33 pl (fu + 1) sc (nI f) place reach s x = fX7_pressedFrom_33 pl fu sc' (nI f) place reach (s ||| (sby (pl 6) (pl 7) (pl 8) (pl 12) G Fb (pl 0 2) place reach (cd (pl 12 f) (sstep (pl 9) f (toRow sc) (5 + f))) (sstep (pl 9) f (toRow sc))).1) (x + 1) ∧ toRow sc' = (sby (pl 6) (pl 7) (pl 8) (pl 12) G Fb (pl 0 2) place reach (cd (pl 12 f) (sstep (pl 9) f (toRow sc) (5 + f))) (sstep (pl 9) f (toRow sc))).2 := by
  have hF := hM.2.2.2.1
  obtain ⟨s1, e1, e2⟩ := c_next sc pl hF hf hR hW
  have hs := RI_step (fk := pl 9) hF hf hR hW
  obtain ⟨s2, e3, e4⟩ := c_heard s1 pl hM (by rw [e2]; exact hs.1) (by rw [e2]; exact hs.2) (cd (pl 12 f) (sstep (pl 9) f (toRow sc) (5 + f))) place reach hp
  rw [e2] at e3 e4
  have hI := RI_send (place := place) (reach := reach) (code := cd (pl 12 f) (sstep (pl 9) f (toRow sc) (5 + f))) hM.2.2 G 0 0 _ (by omega) hs.1 hs.2
  obtain ⟨s3, e5, e6⟩ := c_ear s2 pl (cd (pl 12 f) (sstep (pl 9) f (toRow sc) (5 + f))) place reach hp (by rw [e4]; exact hI.1.2.2.2.2.2.1) (by rw [e4]; exact hI.1.2.2.1)
  refine ⟨s3, ?_, ?_⟩
  · rw [fX7_pressedFrom_33, c_sendings pl (by omega), bd_e, if_pos hx, e1, bd_e, e3, bd_e, lt_e, e5, bd_e, lt_e]
    rfl
  · rw [e6, e4]
    unfold sby
    rw [ssend_low _ _ _ _ (by omega)]
theorem c_pressed (sc pl : Grp) {G Fb f : Nat} (hf : f < Fb) (hM : CP pl G Fb) (hR : RI G Fb (toRow sc)) (hW : WC G (toRow sc)) (hb : ¬ toRow sc (10 + f) = 0) (place : Int32) (hp : inN place 10) :
    ∃ sc', fX7_pressedFrom sc pl (nI f) place = some ((spress (pl 6) (pl 7) (pl 8) (pl 9) (pl 11) (pl 12) G Fb (pl 0 2) f place (toRow sc)).1, sc') ∧ toRow sc' = (spress (pl 6) (pl 7) (pl 8) (pl 9) (pl 11) (pl 12) G Fb (pl 0 2) f place (toRow sc)).2 := by
  have hF := hM.2.2.2.1
  obtain ⟨k, hk, he⟩ := hR.2.2.2.2.2.2.2.1 f hf
  have hk0 : ¬ k = 0 := fun e => hb (by rw [he, e]; rfl)
  have hbat : inN (toRow sc (10 + f) - 1) 61 := ⟨k - 1, by omega, by rw [he]; exact pk_sub (b := 1) (by omega)⟩
  have hrow : toRow (wr sc 9 f (sc 9 f - 1)) = upd (toRow sc) (10 + f) (toRow sc (10 + f) - 1) := by rw [tw10 (by omega), tr10 (by omega)]
  have r0 := RI_10 (v := toRow sc (10 + f) - 1) hF hR (show f < 5 by omega) hbat
  have w0 : WC G (upd (toRow sc) (10 + f) (toRow sc (10 + f) - 1)) := WC_upd hW (by omega)
  unfold fX7_pressedFrom
  rw [ab_e (by omega) (by omega), nI_clamp (by omega), ← tr10 (by omega) sc, he, if_neg (by rw [show (0 : Int32) = nI 0 from rfl]; exact nI_ge (by omega) (by omega)), ab_e (by omega) (by omega), ab_e (by omega) (by omega), lt_e, ← he, tr10 (by omega) sc, c_range _ pl (by omega), bd_e, hrow]
  generalize hg : wr sc 9 f (sc 9 f - 1) = g at hrow
  obtain ⟨s1, e1, e2⟩ := c_press33 pl hf hM place (sreach (pl 9) (pl 11) f (upd (toRow sc) (10 + f) (toRow sc (10 + f) - 1))) hp g 0 0 (by rw [hrow]; exact r0) (by rw [hrow]; exact w0) 999 (by split <;> decide)
  rw [hrow] at e1 e2
  rw [show 1000 = 999 + 1 from rfl, e1, show (0 : Int32) + 1 = 1 from rfl]
  rw [show ∀ z : Int32, (0 : Int32) ||| z = z from fun z => Int32.zero_or]
  have hs := RI_step (fk := pl 9) hF hf r0 w0
  have hI := RI_by (E := pl 0 2) (place := place) (reach := sreach (pl 9) (pl 11) f (upd (toRow sc) (10 + f) (toRow sc (10 + f) - 1))) (code := cd (pl 12 f) (sstep (pl 9) f (upd (toRow sc) (10 + f) (toRow sc (10 + f) - 1)) (5 + f))) hM.2.2 hs.1 hs.2
  unfold spress
  dsimp only
  by_cases h1 : pl 9 f = 1
  · rw [if_pos h1]
    obtain ⟨s2, e3, e4⟩ := c_press33 pl hf hM place (sreach (pl 9) (pl 11) f (upd (toRow sc) (10 + f) (toRow sc (10 + f) - 1))) hp s1 (sby (pl 6) (pl 7) (pl 8) (pl 12) G Fb (pl 0 2) place (sreach (pl 9) (pl 11) f (upd (toRow sc) (10 + f) (toRow sc (10 + f) - 1))) (cd (pl 12 f) (sstep (pl 9) f (upd (toRow sc) (10 + f) (toRow sc (10 + f) - 1)) (5 + f))) (sstep (pl 9) f (upd (toRow sc) (10 + f) (toRow sc (10 + f) - 1)))).1 1 (by rw [e2]; exact hI.1) (by rw [e2]; exact hI.2) 998 (by rw [if_pos h1]; decide)
    rw [e2] at e3 e4
    rw [show 999 = 998 + 1 from rfl, e3, show 998 = 997 + 1 from rfl, fX7_pressedFrom_33, c_sendings pl (by omega), bd_e, if_pos h1, if_neg (by decide)]
    exact ⟨s2, rfl, e4⟩
  · rw [if_neg h1, show 999 = 998 + 1 from rfl, fX7_pressedFrom_33, c_sendings pl (by omega), bd_e, if_neg h1, if_neg (by decide)]
    exact ⟨s1, rfl, e2⟩
theorem c_pressed0 (sc pl : Grp) {f : Nat} (hf : f < 5) (hb : toRow sc (10 + f) = 0) (place : Int32) : fX7_pressedFrom sc pl (nI f) place = some (0, sc) := by
  unfold fX7_pressedFrom
  rw [ab_e (by omega) (by omega), nI_clamp (by omega), ← tr10 (by omega) sc, hb, if_pos (by decide)]
theorem RI_press {G Fb f : Nat} {kd pc wn fk fr sec r : Row} {E place : Int32} (hp : PI G Fb kd pc wn fk fr sec) (hf : f < Fb) (h : RI G Fb r) (hw : WC G r) (hb : ¬ r (10 + f) = 0) : RI G Fb (spress kd pc wn fk fr sec G Fb E f place r).2 ∧ WC G (spress kd pc wn fk fr sec G Fb E f place r).2 := by
  have hF := hp.2.1
  obtain ⟨k, hk, he⟩ := h.2.2.2.2.2.2.2.1 f hf
  have hk0 : ¬ k = 0 := fun e => hb (by rw [he, e]; rfl)
  have hbat : inN (r (10 + f) - 1) 61 := ⟨k - 1, by omega, by rw [he]; exact pk_sub (b := 1) (by omega)⟩
  have r0 := RI_10 (v := r (10 + f) - 1) hF h (show f < 5 by omega) hbat
  have w0 : WC G (upd r (10 + f) (r (10 + f) - 1)) := WC_upd hw (by omega)
  have hs := RI_step (fk := fk) hF hf r0 w0
  unfold spress
  dsimp only
  have hI := RI_by (E := E) (place := place) (reach := sreach fk fr f (upd r (10 + f) (r (10 + f) - 1))) (code := cd (sec f) (sstep fk f (upd r (10 + f) (r (10 + f) - 1)) (5 + f))) hp hs.1 hs.2
  split
  · have hs2 := RI_step (fk := fk) hF hf hI.1 hI.2
    exact RI_by hp hs2.1 hs2.2
  · exact hI
