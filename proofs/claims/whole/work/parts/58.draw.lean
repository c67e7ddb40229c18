theorem lN_and (a b : Nat) : lN a &&& lN b = lN (a &&& b) := by
  apply Int64.toBitVec_inj.1
  show BitVec.ofNat 64 a &&& BitVec.ofNat 64 b = BitVec.ofNat 64 (a &&& b)
  apply BitVec.eq_of_getLsbD_eq
  intro i hi
  simp [hi]
/-- the next state of the draws -/
def nxt (k : Nat) : Nat := (k * 1103515245 + 12345) % 2147483648
theorem nxt_lt (k : Nat) : nxt k < 2 ^ 31 := Nat.mod_lt _ (by omega)
theorem c_draw {dr : Grp} {k n : Nat} (hk : k < 2 ^ 31) (hd : dr 0 0 = nI k) (h0 : 0 < n) (hn : n < 2 ^ 31) : fX1_next dr (nI n) = some (nI (nxt k / 65536 % n), wr dr 0 0 (nI (nxt k))) := by
  unfold fX1_next
  have e : ((dr 0 0).toInt64 * 1103515245 + 12345 &&& 2147483647).toInt32 = nI (nxt k) := by
    rw [hd, nI_l hk, show (1103515245 : Int64) = lN 1103515245 from rfl, show (12345 : Int64) = lN 12345 from rfl, show (2147483647 : Int64) = lN (2 ^ 31 - 1) from rfl, lN_mul, lN_add, lN_and, Nat.and_two_pow_sub_one_eq_mod, lN_i]
    rfl
  rw [if_neg (by rw [show (0 : Int32) = nI 0 from rfl]; exact nI_ge h0 hn), lt_e, e, nz_e (nI_ne0 h0 hn), wr_eq]
  have hz := nxt_lt k
  rw [show nI (nxt k) / 65536 = nI (nxt k / 65536) from pk_div (d := 65536) hz (by omega) (by omega), jrem_nI (by omega) h0 hn]
theorem m_draw {mo : Grp} {k n : Nat} (hk : k < 2 ^ 31) (hd : mo 0 14 = nI k) (h0 : 0 < n) (hn : n < 2 ^ 31) : fX11_draw mo (nI n) = some (nI (nxt k / 65536 % n), wr mo 0 14 (nI (nxt k))) := by
  unfold fX11_draw
  have e : (jleml ((mo 0 14).toInt64 * 1103515245 + 12345) 2147483648).toInt32 = nI (nxt k) := by
    rw [hd, nI_l hk, show (1103515245 : Int64) = lN 1103515245 from rfl, show (12345 : Int64) = lN 12345 from rfl, show (2147483648 : Int64) = lN 2147483648 from rfl, lN_mul, lN_add]
    have : jleml (lN (k * 1103515245 + 12345)) (lN 2147483648) = lN (nxt k) := pk_lRem (by omega) (by omega) (by omega)
    rw [this, lN_i]
  rw [lt_e, e, nz_e (nI_ne0 h0 hn), wr_eq]
  have hz := nxt_lt k
  rw [show nI (nxt k) / 65536 = nI (nxt k / 65536) from pk_div (d := 65536) hz (by omega) (by omega), jrem_nI (by omega) h0 hn]
/-- a draw of both -/
theorem INV_draw {G Fb : Nat} {σ : Mem} (h : INV G Fb σ) {n : Nat} (h0 : 0 < n) (hn : n < 2 ^ 31) : ∃ (r : Nat) (dr mo : Grp), r < n ∧ fX1_next (σ 1 0) (nI n) = some (nI r, dr) ∧ fX11_draw (σ 11 0) (nI n) = some (nI r, mo) ∧ INV G Fb (upM (upM σ 1 0 dr) 11 0 mo) ∧ (∀ j, ¬ j = 0 → mo j = σ 11 0 j) ∧ ∀ i, ¬ i = 14 → mo 0 i = σ 11 0 0 i := by
  obtain ⟨h1, h2, h3, h4, h5, h6, h7, h8, h9, k, hk, ek⟩ := h
  refine ⟨_, _, _, Nat.mod_lt _ h0, c_draw hk (by rw [h9]; exact ek) h0 hn, m_draw hk ek h0 hn, ⟨h1, h2, h3, h4, h5, h6, h7, h8, rfl, _, nxt_lt k, rfl⟩, fun j hj => wr_oth _ hj, fun i hi => wr_ne (fun e => hi e.2)⟩
/-! going back to an image -/
theorem m_back27 (mo : Grp) {i : Nat} (hi : i < 2) : ∀ (n k fu : Nat), k + n = 59 → n + 1 ≤ fu → fX11_goBack_27 fu (wa mo 14 (cpyN (fun z => mo 45 (60 * i + z)) (mo 14) k)) (nI i) (nI k) = some (1, wr (wr (wa mo 14 (cpyN (fun z => mo 45 (60 * i + z)) (mo 14) 59)) 0 14 (mo 45 (60 * i + 59))) 0 32 0) := by
  intro n
  induction n with
  | zero =>
    intro k fu hk hf
    obtain ⟨fu, rfl⟩ : ∃ z, fu = z + 1 := ⟨fu - 1, by omega⟩
    obtain rfl : k = 59 := by omega
    rw [fX11_goBack_27, if_neg (by decide), show (59 : Int32) = nI 59 from rfl, ix60, ab_e (by omega) (by omega), lt_e, lt_e, nI_clamp (by omega), wa_oth _ (show ¬ 45 = 14 by omega)]
  | succ n ih =>
    intro k fu hk hf
    obtain ⟨fu, rfl⟩ : ∃ z, fu = z + 1 := ⟨fu - 1, by omega⟩
    rw [fX11_goBack_27, if_pos (show nI k < 59 from nI_lt (b := 59) (by omega) (by omega)), ix60, ab_e (by omega) (by omega), ab_e (by omega) (by omega), lt_e, lt_e, nI_clamp (by omega), nI_clamp (by omega), ix1, wr_wa2, wa_oth _ (show ¬ 45 = 14 by omega)]
    have := cpyN_succ (fun z => mo 45 (60 * i + z)) (mo 14) k
    rw [this]
    exact ih (k + 1) fu (by omega) (by omega)
theorem w_goBack {G Fb : Nat} {σ : Mem} (h : INV G Fb σ) (x : Int32) : SW (fX10_goBack σ x) (fX11_goBack (σ 11 0) x) σ := by
  have hF := h.1.1.2.2.2.1
  unfold fX10_goBack fX11_goBack
  rcases image2 σ x with ⟨i, hi, rfl, a1, a2⟩ | ⟨a1, a2⟩
  · rw [a1, a2, bd_e, bd_e, if_neg i10, if_neg i10]
    have h' := h
    obtain ⟨h1, h2, h3, h4, ⟨s, nx, p1, p2, p3, p4, p5, p6⟩, h6, h7, h8, h9⟩ := h
    obtain ⟨q1, q2, q3⟩ := h6 i hi
    unfold fX2_isTaken
    rw [ab_e (by omega) (by omega), ab_e (by omega) (by omega), nI_clamp (by omega), q1, zb_e q2, bd_e]
    by_cases hz : σ 11 0 46 i = 0
    · rw [if_pos hz, if_pos hz]
      exact SW_no h' rfl rfl
    · rw [if_neg hz, if_neg hz]
      obtain ⟨g1, g2, g3⟩ := q3 (q2.resolve_left hz)
      have em := m_back27 (σ 11 0) hi 59 0 1000 (by omega) (by omega)
      rw [show cpyN (fun z => σ 11 0 45 (60 * i + z)) (σ 11 0 14) 0 = σ 11 0 14 from by funext i; simp [cpyN], wa_self, show nI 0 = (0 : Int32) from rfl] at em
      rw [em]
      unfold fX2_bringBack fX3_forget
      obtain ⟨sc', c1, c2⟩ := c_copy (σ 7 0) (σ 7 (18 + i))
      rw [ab_e (by omega) (by omega), nI_clamp (by omega), c1, bd_e, lt_e, ab_e (by omega) (by omega), lt_e, bd_e, lt_e, bd_e]
      have e20 : upM σ 7 0 sc' 2 0 = σ 2 0 := rfl
      have e10 : upM σ 7 0 sc' 1 0 = σ 1 0 := rfl
      rw [e20, e10, g2]
      have e30 : ∀ g : Grp, upM (upM σ 7 0 sc') 1 0 g 3 0 = σ 3 0 := fun _ => rfl
      rw [e30]
      refine ⟨_, _, _, rfl, rfl, rfl, G, Fb, h1, ?_, h3, h4, ?_, ?_, h7, h8, ?_⟩
      · have e7 : ∀ (a b c : Grp), upM (upM (upM (upM σ 7 0 sc') 1 0 a) 3 0 b) 11 0 c 7 0 = sc' := fun _ _ _ => rfl
        rw [e7, c2]
        exact SS_E59 hF (E59_cpy _ _) g1
      · exact ⟨0, nx, by omega, p2, rfl, p4, rfl, fun j hj => by omega⟩
      · refine Ig_sc (sc := σ 7) h6 (fun k hk _ => ?_)
        show upM σ 7 0 sc' 7 k = σ 7 k
        exact up7 (by omega)
      · exact ⟨rfl, g3⟩
  · exact SW_no h (by rw [a1, bd_e, if_pos i00]) (by rw [a2, bd_e, if_pos i00])
/-! a code seen -/
theorem and01 {a b : Int32} (ha : a = 0 ∨ a = 1) (hb : b = 0 ∨ b = 1) : (a &&& b = 0 ∨ a &&& b = 1) ∧ (a &&& b = 1 ↔ a = 1 ∧ b = 1) := by
  rcases ha with rfl | rfl <;> rcases hb with rfl | rfl <;> decide
def seeR (f : Row) (c code : Int32) : Row := fun s => f s &&& (if cd (nI s) c = code then 1 else 0)
theorem c_see13 (se : Grp) (h01 : ∀ s, s < 256 → se 1 s = 0 ∨ se 1 s = 1) (c code : Int32) : ∀ (n k fu : Nat), k + n = 256 → n + 1 ≤ fu → fX8_add_13 fu (wa se 1 (cpyN (seeR (se 1) c code) (se 1) k)) c code (nI k) = some (1, wr (wa se 1 (cpyN (seeR (se 1) c code) (se 1) 256)) 0 2 (se 0 2 + 1)) := by
  intro n
  induction n with
  | zero =>
    intro k fu hk hf
    obtain ⟨fu, rfl⟩ : ∃ z, fu = z + 1 := ⟨fu - 1, by omega⟩
    obtain rfl : k = 256 := by omega
    rw [fX8_add_13, if_neg (by decide), lt_e, wa_oth _ (show ¬ 0 = 1 by omega)]
  | succ n ih =>
    intro k fu hk hf
    obtain ⟨fu, rfl⟩ : ∃ z, fu = z + 1 := ⟨fu - 1, by omega⟩
    have hk0 : cpyN (seeR (se 1) c code) (se 1) k k = se 1 k := by simp [cpyN]
    rw [fX8_add_13, if_pos (show nI k < 256 from nI_lt (b := 256) (by omega) (by omega)), ab_e (by omega) (by omega)]
    show d_bd (some (cd (nI k) c)) _ = _
    rw [bd_e, lt_e, ab_e (by omega) (by omega), nI_clamp (by omega), wa_row, hk0, zb_e (and01 (h01 k (by omega)) (by split <;> simp)).1, lt_e, lt_e, ix1, wr_wa2]
    have := cpyN_succ (seeR (se 1) c code) (se 1) k
    rw [show se 1 k &&& (if cd (nI k) c = code then 1 else 0) = seeR (se 1) c code k from rfl, this]
    exact ih (k + 1) fu (by omega) (by omega)
theorem w_see {G Fb : Nat} {σ : Mem} (h : INV G Fb σ) (x y : Int32) : SW (fX10_see σ x y) (fX11_see (σ 11 0) x y) σ := by
  unfold fX10_see fX11_see fX10_isCode
  rcases in2 (c := 999) (by omega) (b := 999) rfl x with ⟨k, hk, he, n0, n1, n2, e⟩ | ⟨e, n0 | ⟨n0, n1, n2⟩⟩
  · rw [if_neg n0, if_pos (show x < 1000 from n2), e, bd_e, if_neg i10]
    rcases in2 (c := 508) (by omega) (b := 508) rfl y with ⟨k2, hk2, he2, m0, m1, m2, e2⟩ | ⟨e2, m0 | ⟨m0, m1, m2⟩⟩
    · rw [if_neg m0, if_pos (show y < 509 from m2), bd_e, if_neg i10, e2, bd_e, if_neg i10]
      have h' := h
      obtain ⟨h1, h2, h3, h4, h5, h6, ⟨n, hn, t1, t2, t3⟩, h8, h9⟩ := h
      unfold fX8_add
      rw [t1, t2]
      by_cases hn2 : n = 6
      · subst hn2
        rw [if_neg (show ¬ nI 6 < 6 by decide), if_pos (show nI 6 = 6 from rfl), bd_e, lt_e, if_pos i00, upM_self]
        exact SW_no h' rfl rfl
      · have es := c_see13 (σ 8 0) (fun s hs => (t3 s hs).1) x y 256 0 1000 (by omega) (by omega)
        rw [show cpyN (seeR (σ 8 0 1) x y) (σ 8 0 1) 0 = σ 8 0 1 from by funext i; simp [cpyN], wa_self, show nI 0 = (0 : Int32) from rfl, t1, ix1] at es
        rw [if_pos (show nI n < 6 from nI_lt (b := 6) (by omega) (by omega)), if_neg (show ¬ nI n = 6 from fun e => hn2 ((nI_inj (b := 6) (by omega) (by omega)).mp e)), es, bd_e, lt_e, if_neg i10, ab_e (by omega) (by omega)]
        simp only [lt_e, nI_clamp (show n < 2 ^ 31 by omega)]
        rw [wr_oth _ (show ¬ 0 = 39 by omega), t2, ab_e (by omega) (by omega), nI_clamp (by omega), wr_oth _ (show ¬ 0 = 40 by omega), wr_oth _ (show ¬ 0 = 39 by omega), t2, ix1]
        refine ⟨_, _, _, rfl, rfl, rfl, G, Fb, h1, h2, h3, h4, h5, h6, ⟨n + 1, by omega, rfl, rfl, ?_⟩, h8, h9⟩
        intro s hs
        show (cpyN (seeR (σ 8 0 1) x y) (σ 8 0 1) 256 s = 0 ∨ cpyN (seeR (σ 8 0 1) x y) (σ 8 0 1) 256 s = 1) ∧ (cpyN (seeR (σ 8 0 1) x y) (σ 8 0 1) 256 s = 1 ↔ ∀ k, k < n + 1 → cd (nI s) (upd (σ 11 0 39) n x k) = upd (σ 11 0 40) n y k)
        have e1 : cpyN (seeR (σ 8 0 1) x y) (σ 8 0 1) 256 s = σ 8 0 1 s &&& (if cd (nI s) x = y then 1 else 0) := by simp [cpyN, hs, seeR]
        rw [e1]
        have ha := and01 (t3 s hs).1 (show (if cd (nI s) x = y then (1 : Int32) else 0) = 0 ∨ (if cd (nI s) x = y then (1 : Int32) else 0) = 1 by split <;> simp)
        refine ⟨ha.1, ha.2.trans ?_⟩
        constructor
        · rintro ⟨f1, f2⟩ k hk
          by_cases ekn : k = n
          · rw [ekn, upd_at, upd_at]
            by_cases hc : cd (nI s) x = y
            · exact hc
            · rw [if_neg hc] at f2
              exact absurd f2 (by decide)
          · rw [upd_ne ekn, upd_ne ekn]
            exact ((t3 s hs).2.mp f1) k (by omega)
        · intro hall
          refine ⟨(t3 s hs).2.mpr (fun k hk => ?_), ?_⟩
          · have := hall k (by omega)
            rw [upd_ne (by omega), upd_ne (by omega)] at this
            exact this
          · have := hall n (by omega)
            rw [upd_at, upd_at] at this
            rw [if_pos this]
    · exact SW_no h (by rw [if_pos m0, bd_e, if_pos i00]) (by rw [e2, bd_e, if_pos i00])
    · exact SW_no h (by rw [if_neg m0, if_neg (show ¬ y < 509 from m2), bd_e, if_pos i00]) (by rw [e2, bd_e, if_pos i00])
  · exact SW_no h (by rw [if_pos n0]) (by rw [e, bd_e, if_pos i00])
  · exact SW_no h (by rw [if_neg n0, if_neg (show ¬ x < 1000 from n2)]) (by rw [e, bd_e, if_pos i00])
