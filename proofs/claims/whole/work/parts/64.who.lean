/-! who could have sent a code; when two have the same one -/
theorem c_ahd (sc pl : Grp) {f : Nat} (hf : f < 5) (k : Int32) : fX7_codeAhead sc pl (nI f) k = some (cd (pl 12 f) (jrem (toRow sc (5 + f) + k) 10000)) := by
  unfold fX7_codeAhead
  rw [ab_e (by omega) (by omega), ab_e (by omega) (by omega), nI_clamp (by omega), tr5 hf]
  rfl
theorem ahd_m (mo : Grp) {f : Nat} (a b : Int32) : fX11_codeOf a b = some (cd a b) := rfl
theorem m_cs1 (mo : Grp) {f : Nat} (hf : f < 5) (h3 : ¬ mo 9 f = 3) (code : Int32) : ∀ (n k fu : Nat), k + n = 41 → n + 1 ≤ fu → fX11_couldSend_40 mo fu (nI f) code 1 (nI k) = some 1 := by
  intro n
  induction n with
  | zero =>
    intro k fu hk hfu
    obtain ⟨fu, rfl⟩ : ∃ z, fu = z + 1 := ⟨fu - 1, by omega⟩
    obtain rfl : k = 41 := by omega
    rw [fX11_couldSend_40, if_neg (show ¬ nI 41 ≤ 40 by decide)]
    rfl
  | succ n ih =>
    intro k fu hk hfu
    obtain ⟨fu, rfl⟩ : ∃ z, fu = z + 1 := ⟨fu - 1, by omega⟩
    rw [fX11_couldSend_40, if_pos (show nI k ≤ 40 from nI_le (b := 40) (by omega) (by omega)), ab_e (by omega) (by omega), nI_clamp (by omega), if_neg h3, if_neg i10, lt_e, ix1]
    exact ih (k + 1) fu (by omega) (by omega)
theorem cs2 {G Fb : Nat} {σ : Mem} (h : INV G Fb σ) {f : Nat} (hf : f < Fb) (h3 : ¬ σ 11 0 9 f = 3) (code : Int32) : ∀ (n k fu : Nat), k + n = 41 → n + 1 ≤ fu → ∃ b, (b = 0 ∨ b = 1) ∧ fX10_couldSend_34 fu σ (nI f) code (nI k) = some b ∧ fX11_couldSend_40 (σ 11 0) fu (nI f) code 0 (nI k) = some b := by
  have hF := h.1.1.2.2.2.1
  have e5 : toRow (σ 7 0) (5 + f) = σ 11 0 14 (5 + f) := h.2.1.1.1 _ (ok5 hF hf)
  have e12 : σ 4 0 12 f = σ 11 0 12 f := (h.1.2.2.1.2 f hf).2.2
  intro n
  induction n with
  | zero =>
    intro k fu hk hfu
    obtain ⟨fu, rfl⟩ : ∃ z, fu = z + 1 := ⟨fu - 1, by omega⟩
    obtain rfl : k = 41 := by omega
    rw [fX11_couldSend_40, fX10_couldSend_34, if_neg (show ¬ nI 41 ≤ 40 by decide), if_neg (show ¬ nI 41 ≤ 40 by decide)]
    exact ⟨0, Or.inl rfl, rfl, rfl⟩
  | succ n ih =>
    intro k fu hk hfu
    obtain ⟨fu, rfl⟩ : ∃ z, fu = z + 1 := ⟨fu - 1, by omega⟩
    have hle : nI k ≤ 40 := nI_le (b := 40) (by omega) (by omega)
    rw [fX11_couldSend_40, fX10_couldSend_34, if_pos hle, if_pos hle, ab_e (by omega) (by omega), nI_clamp (by omega), if_neg h3, if_pos i00, ab_e (by omega) (by omega), ix5a, ab_e (by omega) (by omega), nI_clamp (by omega), c_ahd _ _ (by omega), ahd_m (σ 11 0) (f := f), bd_e, bd_e, e5, e12]
    by_cases hc : cd (σ 11 0 12 f) (jrem (σ 11 0 14 (5 + f) + nI k) 10000) = code
    · rw [if_pos hc, if_pos hc, lt_e, ix1, m_cs1 (σ 11 0) (by omega) h3 code n (k + 1) fu (by omega) (by omega)]
      exact ⟨1, Or.inr rfl, rfl, rfl⟩
    · rw [if_neg hc, if_neg hc, lt_e, lt_e, ix1]
      exact ih (k + 1) fu (by omega) (by omega)
theorem could2 {G Fb : Nat} {σ : Mem} (h : INV G Fb σ) {f : Nat} (hf : f < Fb) (code : Int32) : ∃ b, (b = 0 ∨ b = 1) ∧ fX10_couldSend σ (nI f) code = some b ∧ fX11_couldSend (σ 11 0) (nI f) code = some b := by
  have hF := h.1.1.2.2.2.1
  have e5 : toRow (σ 7 0) (5 + f) = σ 11 0 14 (5 + f) := h.2.1.1.1 _ (ok5 hF hf)
  have e12 : σ 4 0 12 f = σ 11 0 12 f := (h.1.2.2.1.2 f hf).2.2
  have e9 : σ 4 0 9 f = σ 11 0 9 f := (h.1.2.2.1.2 f hf).1
  unfold fX10_couldSend fX11_couldSend fX11_couldSend_35 fX11_couldSend_36
  rw [ab_e (by omega) (by omega), nI_clamp (by omega), e9]
  rw [ab_e (by omega) (by omega)]
  by_cases h3 : σ 11 0 9 f = 3
  · rw [if_pos h3, if_pos h3, ab_e (by omega) (by omega), ix5a, ab_e (by omega) (by omega), nI_clamp (by omega), c_ahd _ _ (by omega), ahd_m (σ 11 0) (f := f), bd_e, bd_e, e5, e12, Int32.add_zero, jrem_id (h.2.1.2.1.2.2.2.2.2.2.1 f hf)]
    have hl : ∀ b : Int32, (b = 0 ∨ b = 1) → fX11_couldSend_40 (σ 11 0) 1000 (nI f) code b 1 = some b := by
      intro b hb
      rw [fX11_couldSend_40, if_pos (show (1 : Int32) ≤ 40 by decide), ab_e (by omega) (by omega), nI_clamp (by omega), if_pos h3, zb_e hb]
    by_cases hc : cd (σ 11 0 12 f) (σ 11 0 14 (5 + f)) = code
    · rw [if_pos hc, if_pos hc, hl 1 (Or.inr rfl)]
      exact ⟨1, Or.inr rfl, rfl, rfl⟩
    · rw [if_neg hc, if_neg hc, hl 0 (Or.inl rfl)]
      exact ⟨0, Or.inl rfl, rfl, rfl⟩
  · rw [if_neg h3, if_neg h3]
    exact cs2 h hf h3 code 40 1 1000 (by omega) (by omega)
theorem who2 {G Fb : Nat} {σ : Mem} (h : INV G Fb σ) (code : Int32) : ∀ (n f fu : Nat) (s : Int32), f + n = Fb → n + 1 ≤ fu → ∃ r, fX10_who_14 fu σ code s (nI f) = some r ∧ fX11_who_19 (σ 11 0) fu code s (nI f) = some r := by
  have hF := h.1.1.2.2.2.1
  intro n
  induction n with
  | zero =>
    intro f fu s hk hfu
    obtain ⟨fu, rfl⟩ : ∃ z, fu = z + 1 := ⟨fu - 1, by omega⟩
    rw [fX10_who_14, fX11_who_19, h.1.1.2.1, h.1.2.1.2.1, if_neg (nI_nlt (by omega) (by omega)), if_neg (nI_nlt (by omega) (by omega))]
    exact ⟨_, rfl, rfl⟩
  | succ n ih =>
    intro f fu s hk hfu
    obtain ⟨fu, rfl⟩ : ∃ z, fu = z + 1 := ⟨fu - 1, by omega⟩
    obtain ⟨b, hb, e1, e2⟩ := could2 h (f := f) (by omega) code
    rw [fX10_who_14, fX11_who_19, h.1.1.2.1, h.1.2.1.2.1, if_pos (nI_lt (by omega) (by omega)), if_pos (nI_lt (by omega) (by omega)), e1, e2, bd_e, bd_e]
    rcases hb with rfl | rfl
    · rw [if_pos i00, if_pos i00]
      simp only [lt_e, ix1, Int32.or_zero]
      exact ih (f + 1) fu _ (by omega) (by omega)
    · rw [if_neg i10, if_neg i10]
      simp only [lt_e, ix1]
      exact ih (f + 1) fu _ (by omega) (by omega)
theorem s_who {G Fb : Nat} {σ : Mem} (h : INV G Fb σ) (x : Int32) : SIR (fX10_who σ x) (fX11_who (σ 11 0) x) := by
  unfold fX10_who fX11_who fX10_isCode
  rcases in2 (c := 508) (by omega) (b := 508) rfl x with ⟨k2, hk2, he2, m0, m1, m2, e2⟩ | ⟨e2, m0 | ⟨m0, m1, m2⟩⟩
  · rw [if_neg m0, if_pos (show x < 509 from m2), bd_e, if_neg i10, e2, bd_e, if_neg i10]
    obtain ⟨r, e1, e3⟩ := who2 h x Fb 0 1000 0 (by omega) (by have := h.1.1.2.2.2.1; omega)
    exact ⟨r, e1, e3⟩
  · rw [if_pos m0, bd_e, if_pos i00, e2, bd_e, if_pos i00]
    exact ⟨_, rfl, rfl⟩
  · rw [if_neg m0, if_neg (show ¬ x < 509 from m2), bd_e, if_pos i00, e2, bd_e, if_pos i00]
    exact ⟨_, rfl, rfl⟩
theorem same2 {G Fb : Nat} {σ : Mem} (h : INV G Fb σ) {f g : Nat} (hf : f < Fb) (hg : g < Fb) : ∀ (n k fu : Nat), k + n = 201 → n + 1 ≤ fu → ∃ b, fX10_same_32 fu σ (nI f) (nI g) (nI k) = some b ∧ fX11_same_26 (σ 11 0) fu (nI f) (nI g) (nI k) = some b := by
  have hF := h.1.1.2.2.2.1
  have e5 : ∀ f, f < Fb → toRow (σ 7 0) (5 + f) = σ 11 0 14 (5 + f) := fun f hf => h.2.1.1.1 _ (ok5 hF hf)
  have e12 : ∀ f, f < Fb → σ 4 0 12 f = σ 11 0 12 f := fun f hf => (h.1.2.2.1.2 f hf).2.2
  intro n
  induction n with
  | zero =>
    intro k fu hk hfu
    obtain ⟨fu, rfl⟩ : ∃ z, fu = z + 1 := ⟨fu - 1, by omega⟩
    obtain rfl : k = 201 := by omega
    rw [fX10_same_32, fX11_same_26, if_neg (show ¬ nI 201 ≤ 200 by decide), if_neg (show ¬ nI 201 ≤ 200 by decide)]
    exact ⟨_, rfl, rfl⟩
  | succ n ih =>
    intro k fu hk hfu
    obtain ⟨fu, rfl⟩ : ∃ z, fu = z + 1 := ⟨fu - 1, by omega⟩
    have hle : nI k ≤ 200 := nI_le (b := 200) (by omega) (by omega)
    rw [fX10_same_32, fX11_same_26, if_pos hle, if_pos hle]
    simp (disch := omega) only [ix5a, ab_e, nI_clamp]
    rw [c_ahd _ _ (by omega), c_ahd _ _ (by omega), ahd_m (σ 11 0) (f := f), bd_e, bd_e, bd_e, ahd_m (σ 11 0) (f := f), bd_e, e5 f hf, e5 g hg, e12 f hf, e12 g hg]
    by_cases hc : cd (σ 11 0 12 f) (jrem (σ 11 0 14 (5 + f) + nI k) 10000) = cd (σ 11 0 12 g) (jrem (σ 11 0 14 (5 + g) + nI k) 10000)
    · rw [if_pos hc, if_pos hc]
      exact ⟨_, rfl, rfl⟩
    · rw [if_neg hc, if_neg hc, lt_e, lt_e, ix1]
      exact ih (k + 1) fu (by omega) (by omega)
theorem s_same {G Fb : Nat} {σ : Mem} (h : INV G Fb σ) (x y : Int32) : SIR (fX10_same σ x y) (fX11_same (σ 11 0) x y) := by
  unfold fX10_same fX11_same
  rcases fobs2 h.1 x with ⟨f, hf, rfl, a1, a2⟩ | ⟨a1, a2⟩
  · rw [a1, a2, bd_e, bd_e, if_neg i10, if_neg i10]
    rcases fobs2 h.1 y with ⟨g, hg, rfl, b1, b2⟩ | ⟨b1, b2⟩
    · rw [b1, b2, bd_e, bd_e, if_neg i10, if_neg i10]
      by_cases he : nI f = nI g
      · rw [if_pos he, if_pos he]
        exact ⟨_, rfl, rfl⟩
      · rw [if_neg he, if_neg he]
        exact same2 h hf hg 200 1 1000 (by omega) (by omega)
    · rw [b1, b2, bd_e, bd_e, if_pos i00, if_pos i00]
      exact ⟨_, rfl, rfl⟩
  · rw [a1, a2, bd_e, bd_e, if_pos i00, if_pos i00]
    exact ⟨_, rfl, rfl⟩
/-! secrets -/
theorem could4 (mo : Grp) {N s : Nat} (hN : N ≤ 6) (h37 : mo 0 37 = nI N) : ∀ (n k fu : Nat), k + n = N → n + 1 ≤ fu → ∃ b, (b = 0 ∨ b = 1) ∧ fX11_couldBe_4 mo fu (nI s) 1 (nI k) = some b ∧ (b = 1 ↔ ∀ j, k ≤ j → j < N → cd (nI s) (mo 39 j) = mo 40 j) := by
  intro n
  induction n with
  | zero =>
    intro k fu hk hfu
    obtain ⟨fu, rfl⟩ : ∃ z, fu = z + 1 := ⟨fu - 1, by omega⟩
    rw [fX11_couldBe_4, h37, if_neg (nI_nlt (by omega) (by omega))]
    exact ⟨1, Or.inr rfl, rfl, fun _ j h1 h2 => by omega, fun _ => rfl⟩
  | succ n ih =>
    intro k fu hk hfu
    obtain ⟨fu, rfl⟩ : ∃ z, fu = z + 1 := ⟨fu - 1, by omega⟩
    rw [fX11_couldBe_4, h37, if_pos (nI_lt (by omega) (by omega)), if_neg i10, ab_e (by omega) (by omega), nI_clamp (by omega), ahd_m mo (f := 0), bd_e, ab_e (by omega) (by omega), lt_e, lt_e, ix1]
    by_cases hc : cd (nI s) (mo 39 k) = mo 40 k
    · rw [if_pos hc]
      obtain ⟨b, hb, e, hi⟩ := ih (k + 1) fu (by omega) (by omega)
      refine ⟨b, hb, e, hi.trans ⟨fun a j h1 h2 => ?_, fun a j h1 h2 => a j (by omega) h2⟩⟩
      by_cases hj : j = k
      · rw [hj]; exact hc
      · exact a j (by omega) h2
    · rw [if_neg hc]
      obtain ⟨fu, rfl⟩ : ∃ z, fu = z + 1 := ⟨fu - 1, by omega⟩
      refine ⟨0, Or.inl rfl, ?_, fun e => absurd e (by decide), fun a => absurd (a k (by omega) (by omega)) hc⟩
      rw [fX11_couldBe_4, if_pos i00]
      split <;> rfl
theorem couldBe2 {se mo : Grp} (h : Sn se mo) {s : Nat} (hs : s < 256) : fX11_couldBe mo (nI s) = some (se 1 s) := by
  obtain ⟨n, hn, t1, t2, t3⟩ := h
  obtain ⟨b, hb, e, hi⟩ := could4 mo (s := s) hn t2 n 0 1000 (by omega) (by omega)
  unfold fX11_couldBe
  rw [show (0 : Int32) = nI 0 from rfl, e]
  obtain ⟨q1, q2⟩ := t3 s hs
  have : b = 1 ↔ se 1 s = 1 := hi.trans ⟨fun a => q2.mpr (fun k hk => a k (by omega) hk), fun a j _ hj => q2.mp a j hj⟩
  rcases hb with rfl | rfl
  · rcases q1 with q | q
    · rw [q]
    · exact absurd (this.mpr q) (by decide)
  · rw [this.mp rfl]
def ctS (φ : Row) : Nat → Nat → Nat → Nat
  | 0, _, a => a
  | n + 1, s, a => ctS φ n (s + 1) (if φ s = 0 then a else a + 1)
theorem fit2 {se mo : Grp} (h : Sn se mo) : ∀ (n s fu a : Nat), s + n = 256 → n + 1 ≤ fu → fX8_fitting_4 se fu (nI a) (nI s) = some (nI (ctS (se 1) n s a)) ∧ fX11_manySecrets_4 mo fu (nI a) (nI s) = some (nI (ctS (se 1) n s a)) := by
  intro n
  induction n with
  | zero =>
    intro s fu a hk hfu
    obtain ⟨fu, rfl⟩ : ∃ z, fu = z + 1 := ⟨fu - 1, by omega⟩
    obtain rfl : s = 256 := by omega
    rw [fX8_fitting_4, fX11_manySecrets_4, if_neg (show ¬ nI 256 < 256 by decide), if_neg (show ¬ nI 256 < 256 by decide)]
    exact ⟨rfl, rfl⟩
  | succ n ih =>
    intro s fu a hk hfu
    obtain ⟨fu, rfl⟩ : ∃ z, fu = z + 1 := ⟨fu - 1, by omega⟩
    have hlt : nI s < 256 := nI_lt (b := 256) (by omega) (by omega)
    rw [fX8_fitting_4, fX11_manySecrets_4, if_pos hlt, if_pos hlt, couldBe2 h (by omega), ab_e (by omega) (by omega), nI_clamp (by omega), bd_e, ctS]
    by_cases hz : se 1 s = 0
    · rw [if_pos hz, if_pos hz, if_pos hz]
      simp only [lt_e, ix1, Int32.add_zero]
      exact ih (s + 1) fu a (by omega) (by omega)
    · rw [if_neg hz, if_neg hz, if_neg hz]
      simp only [lt_e, ix1]
      exact ih (s + 1) fu (a + 1) (by omega) (by omega)
theorem ctS_le (φ : Row) : ∀ (n s a : Nat), a ≤ ctS φ n s a ∧ ctS φ n s a ≤ a + n ∧ (a < ctS φ n s a → ∃ j, s ≤ j ∧ j < s + n ∧ ¬ φ j = 0) := by
  intro n
  induction n with
  | zero => intro s a; exact ⟨Nat.le_refl _, Nat.le_refl _, fun h => absurd h (Nat.lt_irrefl _)⟩
  | succ n ih =>
    intro s a
    rw [ctS]
    by_cases hz : φ s = 0
    · rw [if_pos hz]
      obtain ⟨h1, h2, h3⟩ := ih (s + 1) a
      refine ⟨h1, by omega, fun h => ?_⟩
      obtain ⟨j, j1, j2, j3⟩ := h3 h
      exact ⟨j, by omega, by omega, j3⟩
    · rw [if_neg hz]
      obtain ⟨h1, h2, h3⟩ := ih (s + 1) (a + 1)
      exact ⟨by omega, by omega, fun _ => ⟨s, by omega, by omega, hz⟩⟩
def lst (φ : Row) : Nat → Nat → Int32
  | 0, _ => -1
  | n + 1, s => if φ s = 0 then lst φ n (s + 1) else nI s
def grt (φ : Row) : Nat → Nat → Int32 → Int32
  | 0, _, g => g
  | n + 1, s, g => grt φ n (s + 1) (if φ s = 0 then g else nI s)
theorem grt_snoc (φ : Row) : ∀ (n s : Nat) (g : Int32), grt φ (n + 1) s g = if φ (s + n) = 0 then grt φ n s g else nI (s + n) := by
  intro n
  induction n with
  | zero => intro s g; rfl
  | succ n ih =>
    intro s g
    rw [grt, ih, grt, show s + 1 + n = s + (n + 1) from by omega]
theorem c_lstF (se : Grp) : ∀ (n s fu : Nat), s + n = 256 → n + 1 ≤ fu → fX8_leastFitting_2 se fu (nI s) = some (lst (se 1) n s) := by
  intro n
  induction n with
  | zero =>
    intro s fu hk hfu
    obtain ⟨fu, rfl⟩ : ∃ z, fu = z + 1 := ⟨fu - 1, by omega⟩
    obtain rfl : s = 256 := by omega
    rw [fX8_leastFitting_2, if_neg (show ¬ nI 256 < 256 by decide)]
    rfl
  | succ n ih =>
    intro s fu hk hfu
    obtain ⟨fu, rfl⟩ : ∃ z, fu = z + 1 := ⟨fu - 1, by omega⟩
    rw [fX8_leastFitting_2, if_pos (show nI s < 256 from nI_lt (b := 256) (by omega) (by omega)), ab_e (by omega) (by omega), nI_clamp (by omega), lst]
    by_cases hz : se 1 s = 0
    · rw [if_pos hz, if_pos hz, lt_e, ix1]
      exact ih (s + 1) fu (by omega) (by omega)
    · rw [if_neg hz, if_neg hz]
theorem c_great (se : Grp) : ∀ (n fu : Nat), n ≤ 256 → n + 1 ≤ fu → fX8_greatestFitting_4 se fu (nI n + -1) = some (grt (se 1) n 0 (-1)) := by
  intro n
  induction n with
  | zero =>
    intro fu hk hfu
    obtain ⟨fu, rfl⟩ : ∃ z, fu = z + 1 := ⟨fu - 1, by omega⟩
    rw [fX8_greatestFitting_4, if_pos (show nI 0 + -1 < 0 by decide)]
    rfl
  | succ n ih =>
    intro fu hk hfu
    obtain ⟨fu, rfl⟩ : ∃ z, fu = z + 1 := ⟨fu - 1, by omega⟩
    have e : nI (n + 1) + -1 = nI n := by rw [← ix1, Int32.add_assoc, show (1 : Int32) + -1 = 0 from rfl, Int32.add_zero]
    rw [e, fX8_greatestFitting_4, if_neg (nI_pos (by omega)), ab_e (by omega) (by omega), nI_clamp (by omega), grt_snoc, Nat.zero_add]
    by_cases hz : se 1 n = 0
    · rw [if_pos hz, if_pos hz, lt_e]
      exact ih fu (by omega) (by omega)
    · rw [if_neg hz, if_neg hz]
theorem m_sec {se mo : Grp} (h : Sn se mo) (x : Int32) : ∀ (n s fu : Nat) (a g : Int32), s + n = 256 → n + 1 ≤ fu → (a = -1 ∨ 0 ≤ a) → fX11_secrets_22 mo fu x a g (nI s) = (if x = 0 then d_bd (fX11_manySecrets mo) fun q6 => some q6 else if x = 1 then some (if a < 0 then lst (se 1) n s else a) else some (grt (se 1) n s g)) := by
  intro n
  induction n with
  | zero =>
    intro s fu a g hk hfu ha
    obtain ⟨fu, rfl⟩ : ∃ z, fu = z + 1 := ⟨fu - 1, by omega⟩
    obtain rfl : s = 256 := by omega
    rw [fX11_secrets_22, if_neg (show ¬ nI 256 < 256 by decide), lst, grt]
    rcases ha with rfl | ha
    · rw [if_pos (show (-1 : Int32) < 0 by decide)]
    · rw [if_neg (show ¬ a < 0 from Int32.not_lt.mpr ha)]
  | succ n ih =>
    intro s fu a g hk hfu ha
    obtain ⟨fu, rfl⟩ : ∃ z, fu = z + 1 := ⟨fu - 1, by omega⟩
    rw [fX11_secrets_22, if_pos (show nI s < 256 from nI_lt (b := 256) (by omega) (by omega)), couldBe2 h (by omega)]
    simp only [bd_e, lt_e, ix1]
    rw [lst, grt]
    rcases ha with rfl | ha
    · rw [if_pos (show (-1 : Int32) < 0 by decide), if_pos (show (-1 : Int32) < 0 by decide)]
      by_cases hz : se 1 s = 0
      · rw [if_pos hz, if_pos hz, if_pos hz, ih (s + 1) fu (-1) _ (by omega) (by omega) (Or.inl rfl), if_pos (show (-1 : Int32) < 0 by decide)]
      · rw [if_neg hz, if_neg hz, if_neg hz, ih (s + 1) fu (nI s) _ (by omega) (by omega) (Or.inr (nI_pos' (by omega))), if_neg (nI_pos (by omega))]
    · have hn : ¬ a < 0 := Int32.not_lt.mpr ha
      rw [if_neg hn, if_neg hn, ih (s + 1) fu a _ (by omega) (by omega) (Or.inr ha), if_neg hn]
theorem s_secrets {G Fb : Nat} {σ : Mem} (h : INV G Fb σ) (x : Int32) : SIR (fX10_secrets σ x) (fX11_secrets (σ 11 0) x) := by
  have hS := h.2.2.2.2.2.2.1
  obtain ⟨f1, f2⟩ := fit2 hS 256 0 1000 0 (by omega) (by omega)
  have l1 := c_lstF (σ 8 0) 256 0 1000 (by omega) (by omega)
  have g1 := c_great (σ 8 0) 256 1000 (by omega) (by omega)
  have m1 := m_sec hS x 256 0 1000 (-1) (-1) (by omega) (by omega) (Or.inl rfl)
  rw [show nI 0 = (0 : Int32) from rfl] at f1 f2 l1 m1
  rw [show nI 256 + -1 = (255 : Int32) from by decide] at g1
  unfold fX10_secrets fX11_secrets fX8_fitting fX8_leastFitting fX8_greatestFitting
  rw [f1, l1, g1, m1, bd_e, bd_e, bd_e]
  unfold fX11_manySecrets
  rw [f2, bd_e, if_pos (show (-1 : Int32) < 0 by decide)]
  rcases in2 (c := 2) (by omega) (b := 2) rfl x with ⟨k2, hk2, he2, m0, m1, m2, e2⟩ | ⟨e2, m0⟩
  · rw [e2, bd_e, if_neg i10]
    subst he2
    by_cases h0 : nI k2 = 0
    · rw [if_pos h0, if_pos h0]; exact ⟨_, rfl, rfl⟩
    rw [if_neg h0, if_neg h0]
    by_cases h1 : nI k2 = 1
    · rw [if_pos h1, if_pos h1]; exact ⟨_, rfl, rfl⟩
    rw [if_neg h1, if_neg h1]
    have : k2 = 2 := by
      have a0 : ¬ k2 = 0 := fun e => h0 (by rw [e]; rfl)
      have a1 : ¬ k2 = 1 := fun e => h1 (by rw [e]; rfl)
      omega
    rw [if_pos (show nI k2 = 2 by rw [this]; rfl)]
    exact ⟨_, rfl, rfl⟩
  · rw [e2, bd_e, if_pos i00]
    have hx : ¬ x = 0 ∧ ¬ x = 1 ∧ ¬ x = 2 := by
      rcases m0 with m0 | ⟨m0, m1, m2⟩
      · refine ⟨fun e => ?_, fun e => ?_, fun e => ?_⟩ <;> (subst e; exact absurd m0 (by decide))
      · refine ⟨fun e => ?_, fun e => ?_, fun e => ?_⟩ <;> (subst e; exact absurd m2 (by decide))
    rw [if_neg hx.1, if_neg hx.2.1, if_neg hx.2.2]
    exact ⟨_, rfl, rfl⟩
