/-! hearing: the class's side -/
def CP (pl : Grp) (G Fb : Nat) : Prop := pl 0 3 = nI G ∧ pl 0 4 = nI Fb ∧ PI G Fb (pl 6) (pl 7) (pl 8) (pl 9) (pl 11) (pl 12)
theorem c_first39 (sc pl : Grp) (code s last most : Int32) (hm : most.toInt ≤ 900) : ∀ (n : Nat) (k : Int32), most.toInt - k.toInt + 2 ≤ n → k.toInt ≤ most.toInt + 1 → 0 ≤ k.toInt → fX7_firstAhead_39 sc pl n code s last most k = some (mtc s last code most n k) := by
  intro n
  induction n with
  | zero => intro k h1 h2; omega
  | succ n ih =>
    intro k h1 h2 h0
    unfold fX7_firstAhead_39 mtc
    by_cases h : k ≤ most
    · rw [if_pos h, if_pos h]
      show d_bd (some (cd _ _)) _ = _
      rw [bd_e]
      by_cases h3 : cd s (jrem (last + k) 10000) = code
      · rw [if_pos h3, if_pos h3]
      · rw [if_neg h3, if_neg h3, lt_e]
        have h5 := Int32.le_iff_toInt_le.mp h
        have h4 : (k + 1).toInt = k.toInt + 1 := i32_succ (b := 1001) (by rw [Int32.lt_iff_toInt_lt]; have : (1001 : Int32).toInt = 1001 := rfl; omega)
        exact ih (k + 1) (by omega) (by omega) (by omega)
    · rw [if_neg h, if_neg h]
theorem c_last (sc : Grp) {g f : Nat} (hg : g < 4) (hf : f < 5) : fX7_lastOf sc (nI g) (nI f) = some (toRow sc (38 + 5 * g + f)) := by
  unfold fX7_lastOf
  simp (disch := omega) only [ix5, ab_e, nI_clamp, tr38]
theorem c_least (pl : Grp) {g : Nat} (hg : g < 4) : fX4_leastAhead pl (nI g) = some (if pl 6 g = 2 then 0 else 1) := by
  unfold fX4_leastAhead
  simp (disch := omega) only [ab_e, nI_clamp]
  split <;> rfl
theorem c_most (pl : Grp) {g : Nat} (hg : g < 4) : fX4_mostAhead pl (nI g) = some (if pl 6 g = 1 then 1 else pl 8 g) := by
  unfold fX4_mostAhead
  simp (disch := omega) only [ab_e, nI_clamp]
  split <;> rfl
theorem c_first (sc pl : Grp) {g f : Nat} (hg : g < 4) (hf : f < 5) (hw : inN (pl 8 g) 33) (code : Int32) : fX7_firstAhead sc pl (nI g) (nI f) code = some (mt (pl 6) (pl 8) (pl 12) (toRow sc) g f code) := by
  unfold fX7_firstAhead mt
  rw [ab_e (by omega) (by omega), lt_e, c_last sc hg hf, bd_e, c_most pl hg, bd_e, c_least pl hg, bd_e, nI_clamp (by omega)]
  have hb := mt_args (kd := pl 6) hw
  have h1 : 0 ≤ (if pl 6 g = 2 then (0 : Int32) else 1).toInt ∧ (if pl 6 g = 2 then (0 : Int32) else 1).toInt ≤ 1 := by split <;> decide
  exact c_first39 sc pl code _ _ _ (by omega) 1000 _ (by omega) (by omega) (by omega)
theorem c_wait (sc : Grp) {g : Nat} (hg : g < 4) (a b : Int32) : ∃ sc', fX7_waitFor sc (nI g) a b = some sc' ∧ toRow sc' = upd (upd (toRow sc) (30 + g) a) (34 + g) b := by
  unfold fX7_waitFor
  simp (disch := omega) only [ab_e, nI_clamp, lt_e]
  refine ⟨_, rfl, ?_⟩
  rw [tw34 hg, tw30 hg]
theorem c_open (sc : Grp) {g f : Nat} (hg : g < 4) (hf : f < 5) (ho : inN (toRow sc (26 + g)) 10000) (c : Int32) : ∃ sc', fX7_open sc (nI g) (nI f) c = some sc' ∧ toRow sc' = sopen (toRow sc) g f c := by
  unfold fX7_open
  simp (disch := omega) only [ix5, ab_e, nI_clamp, lt_e]
  obtain ⟨sc', h1, h2⟩ := c_wait (wr (wr sc 13 (5 * g + f) c) 10 g (if (9999 : Int32) < (wr sc 13 (5 * g + f) c 10 g) + 1 then 9999 else (wr sc 13 (5 * g + f) c 10 g) + 1)) hg (-1) (-1)
  refine ⟨sc', by rw [h1, bd_e], ?_⟩
  rw [h2, tw26 hg, tw38 hg hf]
  unfold sopen
  rw [wr_oth _ (by omega), ← tr26 hg sc]
  obtain ⟨k, hk, he⟩ := ho
  rw [he, ix1]
  by_cases hk2 : k = 9999
  · subst hk2
    rfl
  · rw [if_neg (by rw [show (9999 : Int32) = nI 9999 from rfl]; exact nI_nlt (by omega) (by omega)), if_pos (by rw [show (9999 : Int32) = nI 9999 from rfl]; exact nI_lt (by omega) (by omega))]
theorem c_hears57 (sc pl : Grp) {g G Fb : Nat} (hg : g < G) (hM : CP pl G Fb) (hR : RI G Fb (toRow sc)) (code : Int32) : ∀ (n f fu : Nat), f + n = Fb → n + 1 ≤ fu →
    ∃ sc', fX7_hears_57 pl fu sc (nI g) code (nI f) = some ((match sfind (pl 6) (pl 8) (pl 12) (toRow sc) g code n f with
      | none => ((0 : Int32), toRow sc)
      | some f =>
        if pl 6 g = 3 ∧ ¬ mt (pl 6) (pl 8) (pl 12) (toRow sc) g f code ≤ 4 then (0, upd (upd (toRow sc) (30 + g) (nI f)) (34 + g) (jrem (jrem (toRow sc (38 + 5 * g + f) + mt (pl 6) (pl 8) (pl 12) (toRow sc) g f code) 10000 + 1) 10000))
        else (1, sopen (toRow sc) g f (jrem (toRow sc (38 + 5 * g + f) + mt (pl 6) (pl 8) (pl 12) (toRow sc) g f code) 10000))).1, sc') ∧ toRow sc' = (match sfind (pl 6) (pl 8) (pl 12) (toRow sc) g code n f with
      | none => ((0 : Int32), toRow sc)
      | some f =>
        if pl 6 g = 3 ∧ ¬ mt (pl 6) (pl 8) (pl 12) (toRow sc) g f code ≤ 4 then (0, upd (upd (toRow sc) (30 + g) (nI f)) (34 + g) (jrem (jrem (toRow sc (38 + 5 * g + f) + mt (pl 6) (pl 8) (pl 12) (toRow sc) g f code) 10000 + 1) 10000))
        else (1, sopen (toRow sc) g f (jrem (toRow sc (38 + 5 * g + f) + mt (pl 6) (pl 8) (pl 12) (toRow sc) g f code) 10000))).2 := by
  obtain ⟨h3, h7, hG, hF, hgs, hfs⟩ := hM
  intro n
  induction n with
  | zero =>
    intro f fu h1 h2
    obtain ⟨fu, rfl⟩ : ∃ z, fu = z + 1 := ⟨fu - 1, by omega⟩
    unfold fX7_hears_57 sfind
    rw [h7, if_neg (nI_nlt (by omega) (by omega))]
    exact ⟨sc, rfl, rfl⟩
  | succ n ih =>
    intro f fu h1 h2
    obtain ⟨fu, rfl⟩ : ∃ z, fu = z + 1 := ⟨fu - 1, by omega⟩
    unfold fX7_hears_57 sfind
    rw [h7, if_pos (nI_lt (by omega) (by omega)), c_first sc pl (by omega) (by omega) (hgs g hg).2.2.1, bd_e]
    by_cases h : mt (pl 6) (pl 8) (pl 12) (toRow sc) g f code = -1
    · rw [if_pos h, if_pos h, lt_e, ix1]
      exact ih (f + 1) fu (by omega) (by omega)
    · rw [if_neg h, if_neg h, c_last sc (by omega) (by omega), bd_e, lt_e, ab_e (by omega) (by omega), nI_clamp (by omega)]
      by_cases h4 : pl 6 g = 3
      · rw [if_pos h4]
        by_cases h5 : mt (pl 6) (pl 8) (pl 12) (toRow sc) g f code ≤ 4
        · simp only [if_pos h5, if_neg (fun e : pl 6 g = 3 ∧ ¬ mt (pl 6) (pl 8) (pl 12) (toRow sc) g f code ≤ 4 => e.2 h5)]
          unfold fX7_hears_140
          obtain ⟨sc', e1, e2⟩ := c_open sc (g := g) (f := f) (by omega) (by omega) (hR.1 g (by omega)) (jrem (toRow sc (38 + 5 * g + f) + mt (pl 6) (pl 8) (pl 12) (toRow sc) g f code) 10000)
          exact ⟨sc', by rw [e1, bd_e], e2⟩
        · simp only [if_neg h5, if_pos (⟨h4, h5⟩ : pl 6 g = 3 ∧ ¬ mt (pl 6) (pl 8) (pl 12) (toRow sc) g f code ≤ 4)]
          obtain ⟨sc', e1, e2⟩ := c_wait sc (g := g) (by omega) (nI f) (jrem (jrem (toRow sc (38 + 5 * g + f) + mt (pl 6) (pl 8) (pl 12) (toRow sc) g f code) 10000 + 1) 10000)
          exact ⟨sc', by rw [e1, bd_e], e2⟩
      · simp only [if_neg h4, if_neg (fun e : pl 6 g = 3 ∧ ¬ mt (pl 6) (pl 8) (pl 12) (toRow sc) g f code ≤ 4 => h4 e.1)]
        unfold fX7_hears_140
        obtain ⟨sc', e1, e2⟩ := c_open sc (g := g) (f := f) (by omega) (by omega) (hR.1 g (by omega)) (jrem (toRow sc (38 + 5 * g + f) + mt (pl 6) (pl 8) (pl 12) (toRow sc) g f code) 10000)
        exact ⟨sc', by rw [e1, bd_e], e2⟩
theorem c_isFob (pl : Grp) {Fb : Nat} (h : pl 0 4 = nI Fb) (hF : Fb ≤ 5) {f : Nat} (hf : f < Fb) : fX4_isFob pl (nI f) = some 1 := by
  unfold fX4_isFob
  rw [if_neg (nI_pos (by omega)), h, if_pos (nI_lt (by omega) (by omega))]
theorem c_hears (sc pl : Grp) {g G Fb : Nat} (hg : g < G) (hM : CP pl G Fb) (hR : RI G Fb (toRow sc)) (code : Int32) :
    ∃ sc', fX7_hears sc pl (nI g) code = some ((shears (pl 6) (pl 8) (pl 12) Fb (toRow sc) g code).1, sc') ∧ toRow sc' = (shears (pl 6) (pl 8) (pl 12) Fb (toRow sc) g code).2 := by
  have hM' := hM
  obtain ⟨h3, h7, hG, hF, hgs, hfs⟩ := hM
  have hend := c_hears57 sc pl hg hM' hR code Fb 0 1000 (by omega) (by omega)
  rw [show nI 0 = (0 : Int32) from rfl] at hend
  unfold fX7_hears fX7_hears_54
  rw [ab_e (by omega) (by omega), lt_e, nI_clamp (by omega), ← tr30 (by omega) sc]
  unfold shears
  rcases hR.2.1 g (by omega) with hw | hw
  · rw [hw, show fX4_isFob pl (-1) = some 0 from rfl, bd_e, if_pos rfl, if_neg (fun e => e.1 rfl)]
    exact hend
  · have hne := hw.ne (by omega)
    obtain ⟨k, hk, he⟩ := hw
    rw [he, c_isFob pl h7 hF hk, bd_e, if_neg (by decide), ab_e (by omega) (by omega), ab_e (by omega) (by omega), nI_clamp (by omega), ← tr34 (by omega) sc]
    show ∃ sc', d_bd (some (cd _ _)) _ = _ ∧ _
    rw [bd_e]
    rw [he] at hne
    by_cases h : cd (pl 12 k) (toRow sc (34 + g)) = code
    · rw [if_pos h, if_pos ⟨hne, h⟩, ab_e (by omega) (by omega)]
      obtain ⟨sc', e1, e2⟩ := c_open sc (g := g) (f := k) (by omega) (by omega) (hR.1 g (by omega)) (toRow sc (34 + g))
      exact ⟨sc', by rw [e1, bd_e], e2⟩
    · rw [if_neg h, if_neg (fun e => h e.2)]
      exact hend
