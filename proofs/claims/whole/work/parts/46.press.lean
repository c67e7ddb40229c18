def skeep (r : Row) (code : Int32) : Row := fun j => if j = 16 then (if r 16 < 8 then r 16 + 1 else r 16) else if j = 17 then code else if 18 ≤ j ∧ j ≤ 24 then r (j - 1) else r j
theorem m_keep3 (mo : Grp) (code : Int32) {k : Nat} (hk : 1 ≤ k) (hk2 : k ≤ 7) (fu : Nat) : fX11_keepCode_3 (fu + 1) mo code (nI k) = fX11_keepCode_3 fu (wa mo 14 (upd (mo 14) (17 + k) (mo 14 (17 + k - 1)))) code (nI (k - 1)) := by
  rw [fX11_keepCode_3]
  rw [if_neg (by rw [show (0 : Int32) = nI 0 from rfl]; exact nI_ge (by omega) (by omega))]
  rw [ix17, show nI (17 + k) - 1 = nI (17 + k - 1) from pk_sub (b := 1) (by omega)]
  simp (disch := omega) only [ab_e, nI_clamp, lt_e]
  have hm : nI k + (-1 : Int32) = nI (k - 1) := by
    obtain ⟨j, rfl⟩ : ∃ j, k = j + 1 := ⟨k - 1, by omega⟩
    rw [nI_succ, Int32.add_assoc, show (1 : Int32) + (-1) = 0 by decide, Int32.add_zero]
    rfl
  rw [hm]
  rfl
theorem m_keep0 (mo : Grp) (code : Int32) (fu : Nat) : fX11_keepCode_3 (fu + 1) mo code (nI 0) = some (wa mo 14 (upd (upd (mo 14) 17 code) 16 (if mo 14 16 < 8 then mo 14 16 + 1 else mo 14 16))) := by
  rw [fX11_keepCode_3]
  rw [if_pos (by decide)]
  simp only [ab_l (x := 17) (n := 59) (by decide) (by decide), ab_l (x := 16) (n := 59) (by decide) (by decide), lt_e, show (17 : Int32).toNatClampNeg = 17 from rfl, show (16 : Int32).toNatClampNeg = 16 from rfl]
  simp only [wr_wa, wa_row, wa_wa]
  rw [upd_ne (show ¬ 16 = 17 by omega)]
  by_cases h : mo 14 16 < 8
  · rw [if_pos h, if_pos h]
  · rw [if_neg h, if_neg h, Int32.add_zero]
theorem m_keep (mo : Grp) (code : Int32) : fX11_keepCode mo code = some (wa mo 14 (skeep (mo 14) code)) := by
  unfold fX11_keepCode
  rw [show (7 : Int32) = nI 7 from rfl, show 1000 = 999 + 1 from rfl, m_keep3 _ _ (by omega) (by omega), show 999 = 998 + 1 from rfl, m_keep3 _ _ (by omega) (by omega), show 998 = 997 + 1 from rfl, m_keep3 _ _ (by omega) (by omega), show 997 = 996 + 1 from rfl, m_keep3 _ _ (by omega) (by omega), show 996 = 995 + 1 from rfl, m_keep3 _ _ (by omega) (by omega), show 995 = 994 + 1 from rfl, m_keep3 _ _ (by omega) (by omega), show 994 = 993 + 1 from rfl, m_keep3 _ _ (by omega) (by omega), show 993 = 992 + 1 from rfl, m_keep0]
  simp only [wa_row, wa_wa]
  congr 2
  funext j
  unfold skeep
  by_cases h16 : j = 16
  · subst h16
    simp [upd]
  · by_cases h17 : j = 17
    · subst h17
      simp [upd]
    · by_cases h18 : 18 ≤ j ∧ j ≤ 24
      · have : j = 18 ∨ j = 19 ∨ j = 20 ∨ j = 21 ∨ j = 22 ∨ j = 23 ∨ j = 24 := by omega
        rcases this with rfl | rfl | rfl | rfl | rfl | rfl | rfl <;> simp [upd]
      · simp only [if_neg h16, if_neg h17, if_neg h18]
        rw [upd_ne h16, upd_ne h17, upd_ne (by omega), upd_ne (by omega), upd_ne (by omega), upd_ne (by omega), upd_ne (by omega), upd_ne (by omega), upd_ne (by omega)]
theorem ph_not6 : ∀ i, i < 59 → ¬ (17 ≤ i ∧ i < 25) → ¬ (ph i).1 = 6 := by decide +kernel
theorem toRow_wa6 (sc : Grp) (f : Nat → Int32) : toRow (wa sc 6 f) = fun j => if 17 ≤ j ∧ j < 25 then f (j - 17) else toRow sc j := by
  funext j
  by_cases h : 17 ≤ j ∧ j < 25
  · rw [if_pos h]
    obtain ⟨i, rfl⟩ : ∃ i, j = 17 + i := ⟨j - 17, by omega⟩
    rw [tr17 (by omega), wa_row]
    congr 1
    omega
  · rw [if_neg h]
    by_cases hj : j < 59
    · have h6 := ph_not6 j hj h
      simp only [toRow, if_pos hj, wa_oth f h6]
    · simp only [toRow, if_neg hj]
def smax (a b : Int32) : Int32 := if a ≤ b then b else a
theorem smax_lt (a b : Int32) : (if a < b then b else a) = smax a b := by
  unfold smax
  by_cases h : a < b
  · rw [if_pos h, if_pos (Int32.le_of_lt h)]
  · rw [if_neg h]
    split
    · rename_i h2
      exact Int32.le_antisymm h2 (Int32.not_lt.mp h)
    · rfl
theorem c_ear (sc pl : Grp) (code place reach : Int32) (hp : inN place 10) (he : inN (toRow sc 15) 10) (hk : inN (toRow sc 16) 9) : ∃ sc', fX7_heardByEar sc pl code place reach = some sc' ∧ toRow sc' = if sfar place (toRow sc 15) ≤ smax reach (pl 0 2) then skeep (toRow sc) code else toRow sc := by
  unfold fX7_heardByEar
  simp only [lt_e]
  rw [← tr15 sc, c_abs2 hp he, smax_lt]
  by_cases h : sfar place (toRow sc 15) ≤ smax reach (pl 0 2)
  · rw [if_pos h, if_pos h, ab_l (by decide) (by decide)]
    refine ⟨_, rfl, ?_⟩
    rw [tw16]
    have e0 : (0 : Int32).toNatClampNeg = 0 := rfl
    have e1 : (1 : Int32).toNatClampNeg = 1 := rfl
    have e7 : (7 : Int32).toNatClampNeg = 7 := rfl
    rw [e0, e1, e7]
    have t17 := tw17 (f := 0) (by omega) (wa sc 6 (va_cpy (sc 6) (sc 6) 0 1 7)) code
    rw [t17, toRow_wa6]
    rw [wr_oth _ (by omega), wa_oth _ (by omega), ← tr16 sc]
    funext j
    unfold skeep
    by_cases h16 : j = 16
    · subst h16
      rw [upd_at, if_pos rfl]
      obtain ⟨k, hk1, hk2⟩ := hk
      rw [hk2, ix1]
      by_cases h8 : k = 8
      · subst h8; rfl
      · rw [if_neg (by rw [show (8 : Int32) = nI 8 from rfl]; exact nI_nlt (by omega) (by omega)), if_pos (by rw [show (8 : Int32) = nI 8 from rfl]; exact nI_lt (by omega) (by omega))]
    · rw [upd_ne h16, if_neg h16]
      by_cases h17 : j = 17
      · subst h17
        rw [if_pos rfl]
        exact upd_at _ _ _
      · rw [upd_ne (by omega), if_neg h17]
        by_cases h18 : 18 ≤ j ∧ j ≤ 24
        · rw [if_pos h18, if_pos (by omega)]
          obtain ⟨i, rfl⟩ : ∃ i, j = 18 + i := ⟨j - 18, by omega⟩
          unfold va_cpy
          rw [if_pos (by omega)]
          rw [show 18 + i - 1 = 17 + i from by omega, tr17 (by omega)]
          congr 1
          omega
        · rw [if_neg h18]
          by_cases h2 : 17 ≤ j ∧ j < 25
          · omega
          · rw [if_neg h2]
  · rw [if_neg h, if_neg h]
    exact ⟨sc, rfl, rfl⟩
/-! a press -/
noncomputable def sby (kd pc wn sec : Row) (G Fb : Nat) (E place reach code : Int32) (r : Row) : Int32 × Row :=
  ((ssend kd pc wn sec Fb place reach code G 0 0 r).1, if sfar place (r 15) ≤ smax reach E then skeep (ssend kd pc wn sec Fb place reach code G 0 0 r).2 code else (ssend kd pc wn sec Fb place reach code G 0 0 r).2)
def sstep (fk : Row) (f : Nat) (r : Row) : Row := if fk f = 3 then r else upd r (5 + f) (jrem (r (5 + f) + 1) 10000)
def sreach (fk fr : Row) (f : Nat) (r : Row) : Int32 := if fk f = 2 ∧ r (10 + f) < 20 then fr f / 2 else fr f
noncomputable def spress (kd pc wn fk fr sec : Row) (G Fb : Nat) (E : Int32) (f : Nat) (place : Int32) (r : Row) : Int32 × Row :=
  let r0 := upd r (10 + f) (r (10 + f) - 1)
  let reach := sreach fk fr f r0
  let r1 := sstep fk f r0
  let q1 := sby kd pc wn sec G Fb E place reach (cd (sec f) (r1 (5 + f))) r1
  if fk f = 1 then
    let r2 := sstep fk f q1.2
    let q2 := sby kd pc wn sec G Fb E place reach (cd (sec f) (r2 (5 + f))) r2
    (q1.1 ||| q2.1, q2.2)
  else q1
theorem sopen_low {r : Row} {g f : Nat} {c : Int32} {j : Nat} (hj : j < 26) : sopen r g f c j = r j := by
  unfold sopen
  rw [upd_ne (by omega), upd_ne (by omega), upd_ne (by omega), upd_ne (by omega)]
theorem shears_low {kd wn sec r : Row} {Fb g : Nat} {code : Int32} {j : Nat} (hj : j < 26) : (shears kd wn sec Fb r g code).2 j = r j := by
  unfold shears
  split
  · exact sopen_low hj
  · split
    · rfl
    · split
      · dsimp only
        rw [upd_ne (by omega), upd_ne (by omega)]
      · exact sopen_low hj
theorem ssend_low {kd pc wn sec : Row} {Fb : Nat} {place reach code : Int32} : ∀ (n g : Nat) (s : Int32) (r : Row) {j : Nat}, j < 26 → (ssend kd pc wn sec Fb place reach code n g s r).2 j = r j := by
  intro n
  induction n with
  | zero => intro g s r j hj; rfl
  | succ n ih =>
    intro g s r j hj
    unfold ssend
    split
    · rw [ih _ _ _ hj, shears_low hj]
    · exact ih _ _ _ hj
theorem skeep_keep {r : Row} {code : Int32} {j : Nat} (h : j < 16 ∨ 25 ≤ j) : skeep r code j = r j := by
  unfold skeep
  rw [if_neg (by omega), if_neg (by omega), if_neg (by omega)]
theorem RI_keep {G : Nat} {Fb : Nat} {r : Row} {code : Int32} (hF : Fb ≤ 5) (h : RI G Fb r) : RI G Fb (skeep r code) := by
  obtain ⟨a1, a2, a3, a4, a5, a6, a7, a8, a9, a10⟩ := h
  refine ⟨fun g hg => by rw [skeep_keep (by omega)]; exact a1 g hg, fun g hg => by rw [skeep_keep (by omega)]; exact a2 g hg, ?_, by rw [skeep_keep (by omega)]; exact a4, fun f hf => by rw [skeep_keep (by omega)]; exact a5 f hf, by rw [skeep_keep (by omega)]; exact a6, fun f hf => by rw [skeep_keep (by omega)]; exact a7 f hf, fun f hf => by rw [skeep_keep (by omega)]; exact a8 f hf, fun g hg f hf => by rw [skeep_keep (by omega)]; exact a9 g hg f hf, trivial⟩
  unfold skeep
  rw [if_pos rfl]
  obtain ⟨k, hk, he⟩ := a3
  rw [he]
  by_cases h8 : nI k < 8
  · rw [if_pos h8, ix1]
    have : k < 8 := (nI_lt_iff (by omega) (by omega)).mp h8
    exact ⟨k + 1, by omega, rfl⟩
  · rw [if_neg h8]; exact ⟨k, hk, rfl⟩
theorem WC_keep {G : Nat} {r : Row} {code : Int32} (h : WC G r) : WC G (skeep r code) := by
  intro g hg
  rw [skeep_keep (by omega), skeep_keep (by omega)]
  exact h g hg
theorem RI_by {G Fb : Nat} {kd pc wn fk fr sec r : Row} {E place reach code : Int32} (hp : PI G Fb kd pc wn fk fr sec) (h : RI G Fb r) (hw : WC G r) : RI G Fb (sby kd pc wn sec G Fb E place reach code r).2 ∧ WC G (sby kd pc wn sec G Fb E place reach code r).2 := by
  have hI := RI_send (place := place) (reach := reach) (code := code) hp G 0 0 r (by omega) h hw
  unfold sby
  dsimp only
  split
  · exact ⟨RI_keep hp.2.1 hI.1, WC_keep hI.2⟩
  · exact hI
theorem RI_step {G : Nat} {Fb f : Nat} {fk r : Row} (hF : Fb ≤ 5) (hf : f < Fb) (h : RI G Fb r) (hw : WC G r) : RI G Fb (sstep fk f r) ∧ WC G (sstep fk f r) := by
  unfold sstep
  split
  · exact ⟨h, hw⟩
  · exact ⟨RI_5 hF h (by omega) (jrem_in (add_in (h.2.2.2.2.2.2.1 f hf) (⟨1, by omega, rfl⟩ : inN 1 2)) (by omega)), WC_upd hw (by omega)⟩
