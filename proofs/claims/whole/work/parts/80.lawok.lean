/-! the law's loop answers that all is alike -/
theorem lw_go {ox : Option (Int32 × Mem)} (F : Grp → Option (Int32 × Grp)) {σ : Mem} {K : Mem → Option (Int32 × Mem)} (h : SW ox (F (σ 11 0)) σ) (hK : ∀ σ2, (∃ G Fb, INV G Fb σ2) → ∃ σ', K σ2 = some (1, σ')) : ∃ σ', (d_bd ox fun q => d_bd (F (q.2 11 0)) fun q' => d_lt (upM q.2 11 0 q'.2) fun m => if q.1 = q'.1 then K m else some (0, m)) = some (1, σ') := by
  obtain ⟨r, σ1, mo1, h1, h2, h3, h4⟩ := h
  rw [h1, bd_e]
  dsimp only
  rw [h2, h3, bd_e, lt_e]
  dsimp only
  rw [if_pos rfl]
  exact hK _ h4
theorem ls_go {ox om : Option Int32} {σ : Mem} {K : Option (Int32 × Mem)} (h : SIR ox om) (hK : ∃ σ', K = some (1, σ')) : ∃ σ', (d_bd ox fun q => d_bd om fun q' => if q = q' then K else some (0, σ)) = some (1, σ') := by
  obtain ⟨r, h1, h2⟩ := h
  rw [h1, bd_e, h2, bd_e, if_pos rfl]
  exact hK
theorem sub3 {L : Nat} (h : L ≤ 1536) : (nI L - 3).toInt = (L : Int) - 3 := by
  rw [Int32.toInt_sub, nI_toInt (by omega), show (3 : Int32).toInt = 3 from rfl]
  rw [Int.bmod_eq_of_le] <;> omega
theorem le3 {L k : Nat} (h : L ≤ 1536) (hk : k ≤ 3000) : nI k ≤ nI L - 3 ↔ k + 3 ≤ L := by
  rw [Int32.le_iff_toInt_le, sub3 h, nI_toInt (by omega)]
  omega
theorem ixx2 (k : Nat) : nI k + (2 : Int32) = nI (k + 2) := by rw [show (2 : Int32) = nI 2 from rfl, nI_ad]
theorem ixx3 (k : Nat) : nI k + (3 : Int32) = nI (k + 3) := by rw [show (3 : Int32) = nI 3 from rfl, nI_ad]
set_option maxHeartbeats 4000000 in
set_option maxRecDepth 100000 in
theorem law_ok (xs : Nat → Int32) {L : Nat} (hL : L ≤ 1536) : ∀ (fu k : Nat) (σ : Mem), (∃ G Fb, INV G Fb σ) → L + 2 < 3 * fu + k → k ≤ L + 2 → ∃ σ', fL_law_18 xs L fu σ (nI k) = some (1, σ') := by
  intro fu
  induction fu with
  | zero =>
    intro k σ h h1 h2
    exact absurd h1 (by omega)
  | succ fu ih =>
    intro k σ h h1 h2
    obtain ⟨G, Fb, h⟩ := h
    rw [fL_law_18]
    by_cases hk : k + 3 ≤ L
    · have next : ∀ σ2, (∃ G Fb, INV G Fb σ2) → ∃ σ', (d_lt (nI (k + 3)) fun v => fL_law_18 xs L fu σ2 v) = some (1, σ') := fun σ2 hI => ih (k + 3) σ2 hI (by omega) (by omega)
      rw [if_pos (show nI k ≤ Int32.ofNat L - 3 from (le3 hL (by omega)).mpr hk), ab_e (by omega) (by omega), lt_e]
      generalize xs (nI k).toNatClampNeg &&& 63 = v
      by_cases c0 : v = 0
      · rw [if_pos c0]
        simp (disch := omega) only [ix1, ixx2, ixx3, ab_e, nI_clamp]
        exact lw_go (fun mo => fX11_feed mo (xs (k + 1))) (w_feed h (xs (k + 1))) next
      rw [if_neg c0]
      by_cases c1 : v = 1
      · rw [if_pos c1]
        simp (disch := omega) only [ix1, ixx2, ixx3, ab_e, nI_clamp]
        exact lw_go (fun mo => fX11_street mo) (w_street h) next
      rw [if_neg c1]
      by_cases c2 : v = 2
      · rw [if_pos c2]
        simp (disch := omega) only [ix1, ixx2, ixx3, ab_e, nI_clamp]
        exact ls_go (s_fault h) (next σ ⟨G, Fb, h⟩)
      rw [if_neg c2]
      by_cases c3 : v = 3
      · rw [if_pos c3]
        simp (disch := omega) only [ix1, ixx2, ixx3, ab_e, nI_clamp]
        exact ls_go (s_told h (xs (k + 1))) (next σ ⟨G, Fb, h⟩)
      rw [if_neg c3]
      by_cases c4 : v = 4
      · rw [if_pos c4]
        simp (disch := omega) only [ix1, ixx2, ixx3, ab_e, nI_clamp]
        exact lw_go (fun mo => fX11_fob mo (xs (k + 1)) (xs (k + 2))) (w_fob h (xs (k + 1)) (xs (k + 2))) next
      rw [if_neg c4]
      by_cases c5 : v = 5
      · rw [if_pos c5]
        simp (disch := omega) only [ix1, ixx2, ixx3, ab_e, nI_clamp]
        exact lw_go (fun mo => fX11_gate mo (xs (k + 1)) (xs (k + 2))) (w_gate h (xs (k + 1)) (xs (k + 2))) next
      rw [if_neg c5]
      by_cases c6 : v = 6
      · rw [if_pos c6]
        simp (disch := omega) only [ix1, ixx2, ixx3, ab_e, nI_clamp]
        exact ls_go (s_last h (xs (k + 1)) (xs (k + 2))) (next σ ⟨G, Fb, h⟩)
      rw [if_neg c6]
      by_cases c7 : v = 7
      · rw [if_pos c7]
        simp (disch := omega) only [ix1, ixx2, ixx3, ab_e, nI_clamp]
        exact ls_go (s_kept h (xs (k + 1))) (next σ ⟨G, Fb, h⟩)
      rw [if_neg c7]
      by_cases c8 : v = 8
      · rw [if_pos c8]
        simp (disch := omega) only [ix1, ixx2, ixx3, ab_e, nI_clamp]
        exact ls_go (s_code (xs (k + 1)) (xs (k + 2))) (next σ ⟨G, Fb, h⟩)
      rw [if_neg c8]
      by_cases c9 : v = 9
      · rw [if_pos c9]
        simp (disch := omega) only [ix1, ixx2, ixx3, ab_e, nI_clamp]
        exact lw_go (fun mo => fX11_press mo (xs (k + 1))) (w_press h (xs (k + 1))) next
      rw [if_neg c9]
      by_cases c10 : v = 10
      · rw [if_pos c10]
        simp (disch := omega) only [ix1, ixx2, ixx3, ab_e, nI_clamp]
        exact lw_go (fun mo => fX11_step mo (xs (k + 1)) (xs (k + 2))) (w_step h (xs (k + 1)) (xs (k + 2))) next
      rw [if_neg c10]
      by_cases c11 : v = 11
      · rw [if_pos c11]
        simp (disch := omega) only [ix1, ixx2, ixx3, ab_e, nI_clamp]
        exact lw_go (fun mo => fX11_earTo mo (xs (k + 1))) (w_earTo h (xs (k + 1))) next
      rw [if_neg c11]
      by_cases c12 : v = 12
      · rw [if_pos c12]
        simp (disch := omega) only [ix1, ixx2, ixx3, ab_e, nI_clamp]
        simp only [lt_e]
        exact lw_go (fun mo => fX11_noise mo (xs (k + 1)) (if xs (k + 2) = 0 then 0 else 1)) (w_noise h (xs (k + 1)) (if xs (k + 2) = 0 then 0 else 1)) (fun σ2 hI => ih (k + 3) σ2 hI (by omega) (by omega))
      rw [if_neg c12]
      by_cases c13 : v = 13
      · rw [if_pos c13]
        simp (disch := omega) only [ix1, ixx2, ixx3, ab_e, nI_clamp]
        exact lw_go (fun mo => fX11_teach mo (xs (k + 1)) (xs (k + 2))) (w_teach h (xs (k + 1)) (xs (k + 2))) next
      rw [if_neg c13]
      by_cases c14 : v = 14
      · rw [if_pos c14]
        simp (disch := omega) only [ix1, ixx2, ixx3, ab_e, nI_clamp]
        exact lw_go (fun mo => fX11_again mo (xs (k + 1))) (w_again h (xs (k + 1))) next
      rw [if_neg c14]
      by_cases c15 : v = 15
      · rw [if_pos c15]
        simp (disch := omega) only [ix1, ixx2, ixx3, ab_e, nI_clamp]
        exact lw_go (fun mo => fX11_fill mo (xs (k + 1))) (w_fill h (xs (k + 1))) next
      rw [if_neg c15]
      by_cases c16 : v = 16
      · rw [if_pos c16]
        simp (disch := omega) only [ix1, ixx2, ixx3, ab_e, nI_clamp]
        exact lw_go (fun mo => fX11_drift mo (xs (k + 1))) (w_drift h (xs (k + 1))) next
      rw [if_neg c16]
      by_cases c17 : v = 17
      · rw [if_pos c17]
        simp (disch := omega) only [ix1, ixx2, ixx3, ab_e, nI_clamp]
        exact lw_go (fun mo => fX11_undo mo) (w_undo h) next
      rw [if_neg c17]
      by_cases c18 : v = 18
      · rw [if_pos c18]
        simp (disch := omega) only [ix1, ixx2, ixx3, ab_e, nI_clamp]
        exact lw_go (fun mo => fX11_wouldOpen mo (xs (k + 1)) (xs (k + 2))) (w_wouldOpen h (xs (k + 1)) (xs (k + 2))) next
      rw [if_neg c18]
      by_cases c19 : v = 19
      · rw [if_pos c19]
        simp (disch := omega) only [ix1, ixx2, ixx3, ab_e, nI_clamp]
        exact ls_go (s_ahead h (xs (k + 1)) (xs (k + 2))) (next σ ⟨G, Fb, h⟩)
      rw [if_neg c19]
      by_cases c20 : v = 20
      · rw [if_pos c20]
        simp (disch := omega) only [ix1, ixx2, ixx3, ab_e, nI_clamp]
        exact lw_go (fun mo => fX11_locked mo (xs (k + 1)) (xs (k + 2))) (w_locked h (xs (k + 1)) (xs (k + 2))) next
      rw [if_neg c20]
      by_cases c21 : v = 21
      · rw [if_pos c21]
        simp (disch := omega) only [ix1, ixx2, ixx3, ab_e, nI_clamp]
        exact lw_go (fun mo => fX11_takes mo (xs (k + 1)) (xs (k + 2))) (w_takes h (xs (k + 1)) (xs (k + 2))) next
      rw [if_neg c21]
      by_cases c22 : v = 22
      · rw [if_pos c22]
        simp (disch := omega) only [ix1, ixx2, ixx3, ab_e, nI_clamp]
        exact lw_go (fun mo => fX11_row mo (xs (k + 1))) (w_row h (xs (k + 1))) next
      rw [if_neg c22]
      by_cases c23 : v = 23
      · rw [if_pos c23]
        simp (disch := omega) only [ix1, ixx2, ixx3, ab_e, nI_clamp]
        exact ls_go (s_who h (xs (k + 1))) (next σ ⟨G, Fb, h⟩)
      rw [if_neg c23]
      by_cases c24 : v = 24
      · rw [if_pos c24]
        simp (disch := omega) only [ix1, ixx2, ixx3, ab_e, nI_clamp]
        exact ls_go (s_same h (xs (k + 1)) (xs (k + 2))) (next σ ⟨G, Fb, h⟩)
      rw [if_neg c24]
      by_cases c25 : v = 25
      · rw [if_pos c25]
        simp (disch := omega) only [ix1, ixx2, ixx3, ab_e, nI_clamp]
        exact ls_go (s_quiet (xs (k + 1)) (xs (k + 2))) (next σ ⟨G, Fb, h⟩)
      rw [if_neg c25]
      by_cases c26 : v = 26
      · rw [if_pos c26]
        simp (disch := omega) only [ix1, ixx2, ixx3, ab_e, nI_clamp]
        exact lw_go (fun mo => fX11_see mo (xs (k + 1)) (xs (k + 2))) (w_see h (xs (k + 1)) (xs (k + 2))) next
      rw [if_neg c26]
      by_cases c27 : v = 27
      · rw [if_pos c27]
        simp (disch := omega) only [ix1, ixx2, ixx3, ab_e, nI_clamp]
        exact ls_go (s_secrets h (xs (k + 1))) (next σ ⟨G, Fb, h⟩)
      rw [if_neg c27]
      by_cases c28 : v = 28
      · rw [if_pos c28]
        simp (disch := omega) only [ix1, ixx2, ixx3, ab_e, nI_clamp]
        exact lw_go (fun mo => fX11_ask mo) (w_ask h) next
      rw [if_neg c28]
      by_cases c29 : v = 29
      · rw [if_pos c29]
        simp (disch := omega) only [ix1, ixx2, ixx3, ab_e, nI_clamp]
        exact lw_go (fun mo => fX11_write mo (xs (k + 1)) (xs (k + 2))) (w_write h (xs (k + 1)) (xs (k + 2))) next
      rw [if_neg c29]
      by_cases c30 : v = 30
      · rw [if_pos c30]
        simp (disch := omega) only [ix1, ixx2, ixx3, ab_e, nI_clamp]
        exact lw_go (fun mo => fX11_tear mo) (w_tear h) next
      rw [if_neg c30]
      by_cases c31 : v = 31
      · rw [if_pos c31]
        simp (disch := omega) only [ix1, ixx2, ixx3, ab_e, nI_clamp]
        exact ls_go (s_judge h) (next σ ⟨G, Fb, h⟩)
      rw [if_neg c31]
      by_cases c32 : v = 32
      · rw [if_pos c32]
        simp (disch := omega) only [ix1, ixx2, ixx3, ab_e, nI_clamp]
        exact lw_go (fun mo => fX11_seed mo (xs (k + 1))) (w_seed h (xs (k + 1))) next
      rw [if_neg c32]
      by_cases c33 : v = 33
      · rw [if_pos c33]
        simp (disch := omega) only [ix1, ixx2, ixx3, ab_e, nI_clamp]
        exact lw_go (fun mo => fX11_keep mo (xs (k + 1))) (w_keep h (xs (k + 1))) next
      rw [if_neg c33]
      by_cases c34 : v = 34
      · rw [if_pos c34]
        simp (disch := omega) only [ix1, ixx2, ixx3, ab_e, nI_clamp]
        exact lw_go (fun mo => fX11_goBack mo (xs (k + 1))) (w_goBack h (xs (k + 1))) next
      rw [if_neg c34]
      simp only [ixx3]
      exact next σ ⟨G, Fb, h⟩
    · rw [if_neg (show ¬ nI k ≤ Int32.ofNat L - 3 from fun e => hk ((le3 hL (by omega)).mp e))]
      exact ⟨σ, rfl⟩
