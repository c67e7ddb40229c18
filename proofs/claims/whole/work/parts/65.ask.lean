/-! which count to ask for next -/
theorem cd_in {s c : Nat} (hs : s < 256) (hc : c ≤ 60) : ∃ v, v < 509 ∧ cd (nI s) (nI c) = nI v := by
  refine ⟨(s * 61 + c * 13 + s * c) % 509, Nat.mod_lt _ (by omega), ?_⟩
  have hb : s * c ≤ 255 * 60 := Nat.mul_le_mul (by omega) (by omega)
  unfold cd
  rw [show (61 : Int32) = nI 61 from rfl, show (13 : Int32) = nI 13 from rfl, nI_mul, nI_mul, nI_mul, nI_ad, nI_ad]
  exact jrem_nI (b := 509) (by omega) (by omega) (by omega)
/-- the rows of counts: alike, small -/
def AL (A B : Row) (s : Nat) : Prop := ∀ v, v < 509 → ∃ k, k ≤ s ∧ A v = nI k ∧ B v = nI k
theorem part26 {se mo : Grp} (h : Sn se mo) {c : Nat} (hc : c ≤ 60) : ∀ (n s fu m : Nat) (A B : Row), s + n = 256 → n + 1 ≤ fu → AL A B s → m ≤ s → ((∃ j, j < s ∧ ¬ se 1 j = 0) → 1 ≤ m) → ∃ (m' : Nat) (A' B' : Row), fX8_greatestPart_26 fu (wa se 2 A) (nI c) (nI m) (nI s) = some (nI m', wa se 2 A') ∧ fX11_greatestPart_26 fu (wa mo 41 B) (nI c) (nI m) (nI s) = some (nI m', wa mo 41 B') ∧ m' ≤ 256 ∧ ((∃ j, j < 256 ∧ ¬ se 1 j = 0) → 1 ≤ m') := by
  intro n
  induction n with
  | zero =>
    intro s fu m A B hs hfu hA hm hf
    obtain ⟨fu, rfl⟩ : ∃ z, fu = z + 1 := ⟨fu - 1, by omega⟩
    obtain rfl : s = 256 := by omega
    rw [fX8_greatestPart_26, fX11_greatestPart_26, if_neg (show ¬ nI 256 < 256 by decide), if_neg (show ¬ nI 256 < 256 by decide)]
    exact ⟨m, A, B, rfl, rfl, hm, hf⟩
  | succ n ih =>
    intro s fu m A B hs hfu hA hm hf
    obtain ⟨fu, rfl⟩ : ∃ z, fu = z + 1 := ⟨fu - 1, by omega⟩
    have hlt : nI s < 256 := nI_lt (b := 256) (by omega) (by omega)
    have hSn : Sn se (wa mo 41 B) := h
    rw [fX8_greatestPart_26, fX11_greatestPart_26, if_pos hlt, if_pos hlt, couldBe2 hSn (by omega), ab_e (by omega) (by omega), nI_clamp (by omega), bd_e, wa_oth _ (show ¬ 1 = 2 by omega)]
    by_cases hz : se 1 s = 0
    · rw [if_pos hz, if_pos hz, lt_e, lt_e, ix1]
      refine ih (s + 1) fu m A B (by omega) (by omega) (fun v hv => ?_) (by omega) (fun ⟨j, j1, j2⟩ => hf ⟨j, ?_, j2⟩)
      · obtain ⟨k, k1, k2⟩ := hA v hv
        exact ⟨k, by omega, k2⟩
      · by_cases e : j = s
        · exact absurd (e ▸ hz) j2
        · omega
    · obtain ⟨v, hv, ev⟩ := cd_in (s := s) (c := c) (by omega) hc
      obtain ⟨k, k1, k2, k3⟩ := hA v hv
      have hcl : nI v = nI v := rfl
      rw [if_neg hz, if_neg hz, show fX10_codeOf (nI s) (nI c) = some (nI v) from by rw [← ev]; rfl, show fX11_codeOf (nI s) (nI c) = some (nI v) from by rw [← ev]; rfl, bd_e, bd_e]
      simp (disch := omega) only [ab_e, nI_clamp, lt_e, wr_wa2, wa_row, upd_at, ix1]
      rw [k2, k3, ix1]
      have hA' : AL (upd A v (nI (k + 1))) (upd B v (nI (k + 1))) (s + 1) := by
        intro w hw
        by_cases e : w = v
        · exact ⟨k + 1, by omega, by rw [e, upd_at], by rw [e, upd_at]⟩
        · obtain ⟨q, q1, q2, q3⟩ := hA w hw
          exact ⟨q, by omega, by rw [upd_ne e, q2], by rw [upd_ne e, q3]⟩
      by_cases hle : k + 1 ≤ m
      · rw [if_neg (nI_nlt (by omega) (by omega)), if_pos (nI_le (by omega) (by omega))]
        exact ih (s + 1) fu m _ _ (by omega) (by omega) hA' (by omega) (fun _ => by omega)
      · rw [if_pos (nI_lt (by omega) (by omega)), if_neg (fun e => hle ((nI_le_iff (by omega) (by omega)).mp e))]
        exact ih (s + 1) fu (k + 1) _ _ (by omega) (by omega) hA' (by omega) (fun _ => by omega)
theorem c_part2 (se : Grp) (x : Int32) : ∀ (n k fu : Nat) (A : Row), k + n = 509 → n + 1 ≤ fu → (∀ v, v < k → A v = 0) → ∃ A', (∀ v, v < 509 → A' v = 0) ∧ fX8_greatestPart_2 fu (wa se 2 A) x (nI k) = fX8_greatestPart_26 1000 (wa se 2 A') x 0 0 := by
  intro n
  induction n with
  | zero =>
    intro k fu A hk hfu hA
    obtain ⟨fu, rfl⟩ : ∃ z, fu = z + 1 := ⟨fu - 1, by omega⟩
    obtain rfl : k = 509 := by omega
    rw [fX8_greatestPart_2, if_neg (show ¬ nI 509 < 509 by decide)]
    exact ⟨A, hA, rfl⟩
  | succ n ih =>
    intro k fu A hk hfu hA
    obtain ⟨fu, rfl⟩ : ∃ z, fu = z + 1 := ⟨fu - 1, by omega⟩
    rw [fX8_greatestPart_2, if_pos (show nI k < 509 from nI_lt (b := 509) (by omega) (by omega)), ab_e (by omega) (by omega), nI_clamp (by omega), lt_e, lt_e, ix1, wr_wa2]
    refine ih (k + 1) fu _ (by omega) (by omega) (fun v hv => ?_)
    by_cases e : v = k
    · rw [e, upd_at]
    · rw [upd_ne e]; exact hA v (by omega)
theorem m_part4 (mo : Grp) (x : Int32) : ∀ (n k fu : Nat) (A : Row), k + n = 509 → n + 1 ≤ fu → (∀ v, v < k → A v = 0) → ∃ A', (∀ v, v < 509 → A' v = 0) ∧ fX11_greatestPart_4 fu (wa mo 41 A) x 0 (nI k) = fX11_greatestPart_26 1000 (wa mo 41 A') x 0 0 := by
  intro n
  induction n with
  | zero =>
    intro k fu A hk hfu hA
    obtain ⟨fu, rfl⟩ : ∃ z, fu = z + 1 := ⟨fu - 1, by omega⟩
    obtain rfl : k = 509 := by omega
    rw [fX11_greatestPart_4, if_neg (show ¬ nI 509 < 509 by decide)]
    exact ⟨A, hA, rfl⟩
  | succ n ih =>
    intro k fu A hk hfu hA
    obtain ⟨fu, rfl⟩ : ∃ z, fu = z + 1 := ⟨fu - 1, by omega⟩
    rw [fX11_greatestPart_4, if_pos (show nI k < 509 from nI_lt (b := 509) (by omega) (by omega)), ab_e (by omega) (by omega), nI_clamp (by omega), lt_e, lt_e, ix1, wr_wa2]
    refine ih (k + 1) fu _ (by omega) (by omega) (fun v hv => ?_)
    by_cases e : v = k
    · rw [e, upd_at]
    · rw [upd_ne e]; exact hA v (by omega)
theorem part2 {se mo : Grp} (h : Sn se mo) {c : Nat} (hc : c ≤ 60) (A B : Row) : ∃ (m : Nat) (A' B' : Row), fX8_greatestPart (wa se 2 A) (nI c) = some (nI m, wa se 2 A') ∧ fX11_greatestPart (wa mo 41 B) (nI c) = some (nI m, wa mo 41 B') ∧ m ≤ 256 ∧ ((∃ j, j < 256 ∧ ¬ se 1 j = 0) → 1 ≤ m) := by
  obtain ⟨A1, a1, a2⟩ := c_part2 se (nI c) 509 0 1000 A (by omega) (by omega) (fun v hv => by omega)
  obtain ⟨B1, b1, b2⟩ := m_part4 mo (nI c) 509 0 1000 B (by omega) (by omega) (fun v hv => by omega)
  obtain ⟨m, A', B', e1, e2, e3, e4⟩ := part26 h hc 256 0 1000 0 A1 B1 (by omega) (by omega) (fun v hv => ⟨0, by omega, a1 v hv, b1 v hv⟩) (by omega) (fun ⟨j, j1, _⟩ => by omega)
  refine ⟨m, A', B', ?_, ?_, e3, e4⟩
  · unfold fX8_greatestPart
    rw [show (0 : Int32) = nI 0 from rfl, a2]
    exact e1
  · unfold fX11_greatestPart
    rw [show fX11_greatestPart_4 1000 (wa mo 41 B) (nI c) 0 0 = fX11_greatestPart_26 1000 (wa mo 41 B1) (nI c) 0 0 from b2]
    exact e2
theorem ask_rest {se mo : Grp} (h : Sn se mo) {L : Nat} (hL : L ≤ 1) (hf : L = 0 ∨ ∃ j, j < 256 ∧ ¬ se 1 j = 0) (best : Int32) : ∀ (n c fu : Nat) (B : Row), c + n = 61 → n + 1 ≤ fu → ∃ B', fX11_ask_9 fu (wa mo 41 B) best (nI L) (nI c) = some (best, wa mo 41 B') := by
  intro n
  induction n with
  | zero =>
    intro k fu B hk hfu
    obtain ⟨fu, rfl⟩ : ∃ z, fu = z + 1 := ⟨fu - 1, by omega⟩
    obtain rfl : k = 61 := by omega
    rw [fX11_ask_9, if_neg (show ¬ nI 61 ≤ 60 by decide)]
    exact ⟨B, rfl⟩
  | succ n ih =>
    intro k fu B hk hfu
    obtain ⟨fu, rfl⟩ : ∃ z, fu = z + 1 := ⟨fu - 1, by omega⟩
    obtain ⟨m, A', B', e1, e2, e3, e4⟩ := part2 h (c := k) (by omega) B B
    have hn : ¬ nI m < nI L := by
      rw [nI_lt_iff (by omega) (by omega)]
      rcases hf with rfl | hf
      · omega
      · have := e4 hf; omega
    rw [fX11_ask_9, if_pos (show nI k ≤ 60 from nI_le (b := 60) (by omega) (by omega)), e2, bd_e]
    dsimp only
    rw [if_neg hn, if_neg hn, lt_e, lt_e, lt_e, ix1]
    exact ih (k + 1) fu B' (by omega) (by omega)
theorem ask2 {se mo : Grp} (h : Sn se mo) : ∀ (n c fu L : Nat) (best : Int32) (A B : Row), c + n = 61 → n + 1 ≤ fu → L ≤ 256 → (L = 0 ∨ ∃ j, j < 256 ∧ ¬ se 1 j = 0) → ∃ (r : Int32) (A' B' : Row), fX8_bestQuestion_9 fu (wa se 2 A) best (nI L) (nI c) = some (r, wa se 2 A') ∧ fX11_ask_9 fu (wa mo 41 B) best (nI L) (nI c) = some (r, wa mo 41 B') := by
  intro n
  induction n with
  | zero =>
    intro k fu L best A B hk hfu hL hf
    obtain ⟨fu, rfl⟩ : ∃ z, fu = z + 1 := ⟨fu - 1, by omega⟩
    obtain rfl : k = 61 := by omega
    rw [fX8_bestQuestion_9, fX11_ask_9, if_neg (show ¬ nI 61 ≤ 60 by decide), if_neg (show ¬ nI 61 ≤ 60 by decide)]
    exact ⟨_, A, B, rfl, rfl⟩
  | succ n ih =>
    intro k fu L best A B hk hfu hL hf
    have hle : nI k ≤ 60 := nI_le (b := 60) (by omega) (by omega)
    by_cases h1 : L ≤ 1
    · obtain ⟨B', e⟩ := ask_rest h h1 hf best (n + 1) k fu B (by omega) (by omega)
      refine ⟨best, A, B', ?_, e⟩
      obtain ⟨fu, rfl⟩ : ∃ z, fu = z + 1 := ⟨fu - 1, by omega⟩
      rw [fX8_bestQuestion_9, if_pos hle, if_pos (show nI L ≤ 1 from nI_le (b := 1) (by omega) (by omega))]
    · obtain ⟨fu, rfl⟩ : ∃ z, fu = z + 1 := ⟨fu - 1, by omega⟩
      obtain ⟨m, A', B', e1, e2, e3, e4⟩ := part2 h (c := k) (by omega) A B
      rw [fX8_bestQuestion_9, fX11_ask_9, if_pos hle, if_pos hle, if_neg (show ¬ nI L ≤ 1 from fun e => h1 ((nI_le_iff (b := 1) (by omega) (by omega)).mp e)), e1, e2, bd_e, bd_e]
      dsimp only
      by_cases hn : nI m < nI L
      · rw [if_pos hn, if_pos hn, if_pos hn]
        simp only [lt_e, ix1]
        refine ih (k + 1) fu m _ A' B' (by omega) (by omega) e3 ?_
        rcases hf with hf | hf
        · omega
        · exact Or.inr hf
      · rw [if_neg hn, if_neg hn, if_neg hn]
        simp only [lt_e, ix1]
        exact ih (k + 1) fu L _ A' B' (by omega) (by omega) hL hf
theorem w_ask {G Fb : Nat} {σ : Mem} (h : INV G Fb σ) : SW (fX10_ask σ) (fX11_ask (σ 11 0)) σ := by
  have hS := h.2.2.2.2.2.2.1
  obtain ⟨f1, f2⟩ := fit2 hS 256 0 1000 0 (by omega) (by omega)
  have hc := ctS_le (σ 8 0 1) 256 0 0
  obtain ⟨r, A, B, e1, e2⟩ := ask2 hS 61 0 1000 (ctS (σ 8 0 1) 256 0 0) (-1) (σ 8 0 2) (σ 11 0 41) (by omega) (by omega) (by omega) (by
    by_cases h0 : ctS (σ 8 0 1) 256 0 0 = 0
    · exact Or.inl h0
    · obtain ⟨j, j1, j2, j3⟩ := hc.2.2 (by omega)
      exact Or.inr ⟨j, by omega, j3⟩)
  rw [wa_self, show nI 0 = (0 : Int32) from rfl] at e1 e2
  rw [show nI 0 = (0 : Int32) from rfl] at f1 f2
  unfold fX10_ask fX11_ask fX8_bestQuestion fX8_fitting fX11_manySecrets
  rw [f1, f2, bd_e, bd_e, e1, e2, bd_e, lt_e]
  exact ⟨_, _, _, rfl, rfl, rfl, G, Fb, h⟩
