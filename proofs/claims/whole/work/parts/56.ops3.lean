theorem c_clear8_2 (se : Grp) : ∀ (n k fu : Nat), k + n = 256 → n + 1 ≤ fu → fX8_clear_2 fu (wa se 1 (cpyN (fun _ => 1) (se 1) k)) (nI k) = some (wr (wa se 1 (cpyN (fun _ => 1) (se 1) 256)) 0 2 0) := by
  intro n
  induction n with
  | zero =>
    intro k fu hk hf
    obtain ⟨fu, rfl⟩ : ∃ z, fu = z + 1 := ⟨fu - 1, by omega⟩
    obtain rfl : k = 256 := by omega
    rw [fX8_clear_2, if_neg (by decide), lt_e]
  | succ n ih =>
    intro k fu hk hf
    obtain ⟨fu, rfl⟩ : ∃ z, fu = z + 1 := ⟨fu - 1, by omega⟩
    rw [fX8_clear_2, if_pos (show nI k < 256 from nI_lt (b := 256) (by omega) (by omega)), ab_e (by omega) (by omega), lt_e, lt_e, nI_clamp (by omega), ix1, wr_wa2]
    have := cpyN_succ (fun _ => 1) (se 1) k
    rw [this]
    exact ih (k + 1) fu (by omega) (by omega)
theorem c_clear8 (se : Grp) : fX8_clear se = some (wr (wa se 1 (cpyN (fun _ => 1) (se 1) 256)) 0 2 0) := by
  unfold fX8_clear
  have e := c_clear8_2 se 256 0 1000 (by omega) (by omega)
  rw [show cpyN (fun _ => 1) (se 1) 0 = se 1 from by funext i; simp [cpyN], wa_self] at e
  exact e
/-- nothing seen, nothing written -/
theorem INV_tear {G Fb : Nat} {σ : Mem} (h : INV G Fb σ) {se bk mo : Grp} (hse : se 0 2 = 0 ∧ ∀ s, s < 256 → se 1 s = 1) (hbk : bk 0 2 = 0) (h37 : mo 0 37 = 0) (h41 : mo 0 41 = 0) (hm : ∀ j, ¬ j = 0 → mo j = σ 11 0 j) (hm0 : ∀ i, ¬ i = 37 → ¬ i = 41 → mo 0 i = σ 11 0 0 i) : INV G Fb (upM (upM (upM σ 8 0 se) 0 0 bk) 11 0 mo) := by
  obtain ⟨h1, h2, h3, h4, h5, h6, h7, h8, h9⟩ := h
  have e11 : upM (upM (upM σ 8 0 se) 0 0 bk) 11 0 mo 11 0 = mo := rfl
  have e4 : upM (upM (upM σ 8 0 se) 0 0 bk) 11 0 mo 4 0 = σ 4 0 := rfl
  unfold INV
  rw [e11, e4]
  refine ⟨?_, ?_, ?_, ?_, ?_, ?_, ?_, ?_, ?_⟩
  · unfold Pn MP at h1 ⊢
    rw [hm 5 (by omega), hm 6 (by omega), hm 7 (by omega), hm 9 (by omega), hm 11 (by omega), hm 12 (by omega), hm0 0 (by omega) (by omega), hm0 2 (by omega) (by omega), hm0 3 (by omega) (by omega), hm0 7 (by omega) (by omega)]
    exact h1
  · rw [hm 14 (by omega)]; exact h2
  · obtain ⟨n, a1, a2, a3, a4⟩ := h3
    exact ⟨n, a1, a2, by rw [hm0 16 (by omega) (by omega)]; exact a3, by rw [hm 16 (by omega)]; exact a4⟩
  · rw [hm0 17 (by omega) (by omega)]; exact h4
  · obtain ⟨s, nx, a1, a2, a3, a4, a5, a6⟩ := h5
    exact ⟨s, nx, a1, a2, a3, a4, by rw [hm0 32 (by omega) (by omega)]; exact a5, by rw [hm 34 (by omega)]; exact a6⟩
  · intro i hi
    rw [hm 46 (by omega), hm 45 (by omega)]
    exact h6 i hi
  · exact ⟨0, by omega, hse.1, h37, fun s hs => ⟨Or.inr (hse.2 s hs), ⟨fun _ k hk => by omega, fun _ => hse.2 s hs⟩⟩⟩
  · exact ⟨0, by omega, hbk, h41, fun k hk => by omega⟩
  · exact ⟨by rw [hm0 14 (by omega) (by omega)]; exact h9.1, by rw [hm0 14 (by omega) (by omega)]; exact h9.2⟩
theorem w_tear {G Fb : Nat} {σ : Mem} (h : INV G Fb σ) : SW (fX10_tear σ) (fX11_tear (σ 11 0)) σ := by
  unfold fX10_tear fX11_tear fX0_clear
  simp only [lt_e, bd_e, c_clear8]
  obtain ⟨n, hn, a1, a2, -⟩ := h.2.2.2.2.2.2.1
  obtain ⟨m, hm, b1, b2, -⟩ := h.2.2.2.2.2.2.2.1
  rw [a1, b1, a2, b2]
  refine ⟨_, _, _, rfl, rfl, rfl, G, Fb, INV_tear h ⟨rfl, ?_⟩ rfl ?_ rfl ?_ ?_⟩
  · intro s hs
    show cpyN (fun _ => 1) (σ 8 0 1) 256 s = 1
    simp [cpyN, hs]
  · rfl
  · intro j hj
    rw [wr_oth _ hj, wr_oth _ hj]
  · intro i h1 h2
    rw [wr_ne (fun e => h2 e.2), wr_ne (fun e => h1 e.2)]
theorem judge2 {G Fb : Nat} {σ : Mem} (h : INV G Fb σ) {n : Nat} (hn : n ≤ 15) (b1 : σ 0 0 0 2 = nI n) (b2 : σ 11 0 0 41 = nI n) (b3 : ∀ k, k < n → σ 0 0 1 k = σ 11 0 43 k ∧ inN (σ 11 0 43 k) G ∧ σ 0 0 2 k = σ 11 0 44 k) : ∀ (m k fu : Nat), k + m = n → m + 1 ≤ fu → ∃ r, fX0_firstFalse_2 (σ 0 0) (σ 7 0) fu (nI k) = some r ∧ fX11_judge_2 (σ 11 0) fu (nI k) = some r := by
  have hG := h.1.1.2.2.1
  intro m
  induction m with
  | zero =>
    intro k fu hk hf
    obtain ⟨fu, rfl⟩ : ∃ z, fu = z + 1 := ⟨fu - 1, by omega⟩
    rw [fX0_firstFalse_2, fX11_judge_2, b1, b2, if_neg (nI_nlt (by omega) (by omega)), if_neg (nI_nlt (by omega) (by omega))]
    exact ⟨_, rfl, rfl⟩
  | succ m ih =>
    intro k fu hk hf
    obtain ⟨fu, rfl⟩ : ∃ z, fu = z + 1 := ⟨fu - 1, by omega⟩
    obtain ⟨c1, ⟨g, hg, c2⟩, c3⟩ := b3 k (by omega)
    rw [fX0_firstFalse_2, fX11_judge_2, b1, b2, if_pos (nI_lt (by omega) (by omega)), if_pos (nI_lt (by omega) (by omega))]
    simp (disch := omega) only [ab_e, nI_clamp, lt_e]
    rw [c1, c2, ix26]
    simp (disch := omega) only [ab_e, nI_clamp]
    rw [c3, ← tr26 (by omega) (σ 7 0), h.2.1.1.1 _ (ok26 (by omega)), ix1]
    by_cases he : σ 11 0 14 (26 + g) = σ 11 0 44 k
    · rw [if_pos he, if_pos he]
      exact ih (k + 1) fu (by omega) (by omega)
    · rw [if_neg he, if_neg he]
      exact ⟨_, rfl, rfl⟩
theorem s_judge {G Fb : Nat} {σ : Mem} (h : INV G Fb σ) : SIR (fX10_judge σ) (fX11_judge (σ 11 0)) := by
  obtain ⟨n, hn, b1, b2, b3⟩ := h.2.2.2.2.2.2.2.1
  obtain ⟨r, e1, e2⟩ := judge2 h hn b1 b2 b3 n 0 1000 (by omega) (by omega)
  unfold fX10_judge fX11_judge fX0_firstFalse
  rw [show nI 0 = (0 : Int32) from rfl] at e1 e2
  rw [e1, e2]
  exact ⟨r, rfl, rfl⟩
/-! undo -/
theorem m_undo22 (mo : Grp) {s : Nat} (hs : s < 16) (h32 : mo 0 32 = nI s) : ∀ (n k fu : Nat), k + n = 59 → n + 1 ≤ fu → fX11_undo_22 fu (wa mo 14 (cpyN (fun i => mo 34 (59 * s + i)) (mo 14) k)) (nI k) = some (nI s, wa mo 14 (cpyN (fun i => mo 34 (59 * s + i)) (mo 14) 59)) := by
  intro n
  induction n with
  | zero =>
    intro k fu hk hf
    obtain ⟨fu, rfl⟩ : ∃ z, fu = z + 1 := ⟨fu - 1, by omega⟩
    obtain rfl : k = 59 := by omega
    rw [fX11_undo_22, if_neg (by decide), wa_oth _ (by omega), h32]
  | succ n ih =>
    intro k fu hk hf
    obtain ⟨fu, rfl⟩ : ∃ z, fu = z + 1 := ⟨fu - 1, by omega⟩
    rw [fX11_undo_22, if_pos (show nI k < 59 from nI_lt (b := 59) (by omega) (by omega)), wa_oth _ (show ¬ 0 = 14 by omega), h32, ix59, ab_e (by omega) (by omega), ab_e (by omega) (by omega), lt_e, lt_e, nI_clamp (by omega), nI_clamp (by omega), ix1, wr_wa2, wa_oth _ (by omega)]
    have := cpyN_succ (fun i => mo 34 (59 * s + i)) (mo 14) k
    rw [this]
    exact ih (k + 1) fu (by omega) (by omega)
theorem w_undo {G Fb : Nat} {σ : Mem} (h : INV G Fb σ) : SW (fX10_undo σ) (fX11_undo (σ 11 0)) σ := by
  have hF := h.1.1.2.2.2.1
  have h' := h
  obtain ⟨h1, h2, h3, h4, ⟨s, nx, a1, a2, a3, a4, a5, a6⟩, h6, h7, h8, h9⟩ := h
  unfold fX10_undo fX11_undo
  rw [a3, a5]
  by_cases hs : s = 0
  · subst hs
    rw [if_pos (show nI 0 = 0 from rfl), if_pos (show nI 0 = 0 from rfl)]
    exact SW_no h' rfl rfl
  · rw [if_neg (nI_ne0 (by omega) (by omega)), if_neg (nI_ne0 (by omega) (by omega))]
    have hsub : nI s - 1 = nI (s - 1) := pk_sub (b := 1) (by omega)
    have hnx : jrem (nI nx + 16 - 1) 16 = nI ((nx + 15) % 16) := by
      rw [show (16 : Int32) = nI 16 from rfl, nI_add, show nI (nx + 16) - 1 = nI (nx + 16 - 1) from pk_sub (b := 1) (by omega), jrem_nI (by omega) (by omega) (by omega)]
      rfl
    -- the class
    unfold fX3_takeBack
    rw [a3, if_neg (nI_ne0 (by omega) (by omega)), a4, hnx]
    simp only [lt_e, upM_same, upM_upM]
    have hp2 : wr (σ 3 0) 0 1 (nI ((nx + 15) % 16)) 0 2 = nI s := by rw [wr_ne (by omega)]; exact a3
    rw [hp2, hsub]
    have hp1 : wr (wr (σ 3 0) 0 1 (nI ((nx + 15) % 16))) 0 2 (nI (s - 1)) 0 1 = nI ((nx + 15) % 16) := by rw [wr_ne (by omega)]; exact wr_eq _ _ _ _
    rw [hp1, ab_e (by omega) (by omega), nI_clamp (by omega)]
    have e70 : upM σ 3 0 (wr (wr (σ 3 0) 0 1 (nI ((nx + 15) % 16))) 0 2 (nI (s - 1))) 7 0 = σ 7 0 := rfl
    have e7k : upM σ 3 0 (wr (wr (σ 3 0) 0 1 (nI ((nx + 15) % 16))) 0 2 (nI (s - 1))) 7 (2 + (nx + 15) % 16) = σ 7 (2 + (nx + 15) % 16) := rfl
    rw [e70, e7k]
    obtain ⟨sc', c1, c2⟩ := c_copy (σ 7 0) (σ 7 (2 + (nx + 15) % 16))
    rw [c1, bd_e, bd_e]
    -- the model
    have em := m_undo22 (wr (σ 11 0) 0 32 (nI (s - 1))) (s := s - 1) (by omega) (wr_eq _ _ _ _) 59 0 1000 (by omega) (by omega)
    rw [show cpyN (fun i => wr (σ 11 0) 0 32 (nI (s - 1)) 34 (59 * (s - 1) + i)) (wr (σ 11 0) 0 32 (nI (s - 1)) 14) 0 = wr (σ 11 0) 0 32 (nI (s - 1)) 14 from by funext i; simp [cpyN], wa_self, show nI 0 = (0 : Int32) from rfl] at em
    rw [em]
    have hr : upM (upM σ 3 0 (wr (wr (σ 3 0) 0 1 (nI ((nx + 15) % 16))) 0 2 (nI (s - 1)))) 7 0 sc' 3 0 0 2 = nI (s - 1) := rfl
    rw [hr]
    refine ⟨_, _, _, rfl, rfl, rfl, G, Fb, ?_, ?_, h3, h4, ?_, ?_, h7, h8, h9⟩
    · exact ⟨h1.1, h1.2.1, h1.2.2⟩
    · have e1 : ∀ X : Grp, upM (upM (upM σ 3 0 (wr (wr (σ 3 0) 0 1 (nI ((nx + 15) % 16))) 0 2 (nI (s - 1)))) 7 0 sc') 11 0 X 7 0 = sc' := fun _ => rfl
      rw [e1, c2]
      refine SS_E59 hF (E59_cpy _ _) ?_
      have := a6 (s - 1) (by omega)
      rw [show 2 + (nx + 16 - s + (s - 1)) % 16 = 2 + (nx + 15) % 16 from by omega] at this
      exact this
    · refine ⟨s - 1, (nx + 15) % 16, by omega, by omega, rfl, rfl, rfl, ?_⟩
      intro j hj
      have e1 : ∀ (X : Grp) (k : Nat), upM (upM (upM σ 3 0 (wr (wr (σ 3 0) 0 1 (nI ((nx + 15) % 16))) 0 2 (nI (s - 1)))) 7 0 sc') 11 0 X 7 k = upM σ 7 0 sc' 7 k := fun _ k => rfl
      rw [e1, up7 (by omega)]
      have := a6 j (by omega)
      rw [show 2 + (nx + 16 - s + j) % 16 = 2 + ((nx + 15) % 16 + 16 - (s - 1) + j) % 16 from by omega] at this
      exact this
    · refine Ig_sc (sc := σ 7) h6 (fun k hk _ => ?_)
      show upM σ 7 0 sc' 7 k = σ 7 k
      exact up7 (by omega)
