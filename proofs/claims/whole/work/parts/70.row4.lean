theorem m_all12 (mo : Grp) {K n : Nat} (hK : K ≤ 8) (hn : n ≤ 3) (e16 : mo 14 16 = nI K) (x1 s : Int32) : ∀ (c k fu : Nat), 1 ≤ k → k + c = n → c + 1 ≤ fu → fX11_opensAll_12 fu mo x1 (nI n) s (nI (K ^ (k - 1))) (nI k) = fX11_opensAll_39 1000 mo x1 (nI n) s (nI (K ^ (n - 1))) 0 := by
  intro c
  induction c with
  | zero =>
    intro k fu h1 hk hfu
    obtain ⟨fu, rfl⟩ : ∃ z, fu = z + 1 := ⟨fu - 1, by omega⟩
    obtain rfl : k = n := by omega
    rw [fX11_opensAll_12, if_neg (nI_nlt (by omega) (by omega))]
  | succ c ih =>
    intro k fu h1 hk hfu
    obtain ⟨fu, rfl⟩ : ∃ z, fu = z + 1 := ⟨fu - 1, by omega⟩
    rw [fX11_opensAll_12, if_pos (nI_lt (by omega) (by omega)), ab_l (x := 16) (by decide) (by decide), show (16 : Int32).toNatClampNeg = 16 from rfl, e16, lt_e, lt_e, ix1, nI_mul]
    have := ih (k + 1) fu (by omega) (by omega) (by omega)
    rw [show k + 1 - 1 = (k - 1) + 1 from by omega, Nat.pow_succ] at this
    exact this
theorem m_all {mo : Grp} {G Fb K n j : Nat} (hM : MP mo G Fb) {z B r : Row} (hz : Zk mo z) (hK : K ≤ 8) (hn : n ≤ 3) (hn1 : 1 ≤ n) (hj : j < K ^ n) (hR : RI G Fb r) (hW : WC G r) (e16 : r 16 = nI K) :
    ∃ B' r', E59 r' r ∧ fX11_opensAll (FZ mo z B r) (nI j) (nI n) = some (if pm (mo 5) (mo 6) (mo 7) (mo 12) G Fb (mo 0 2) K n r (srch (mo 6) (mo 0 2) r G 0 0) j = true then 1 else 0, FZ mo z B' r') := by
  have h0 : 0 < K := by
    rcases Nat.eq_zero_or_pos K with h | h
    · rw [h, Nat.zero_pow (by omega)] at hj; omega
    · exact h
  have hp := pow8 hK hn
  obtain ⟨r', h1, h2⟩ := m_all39 (B := cpyN r B 59) (r0 := r) (n := n) (j := j) hM hz hK h0 hn (by omega) (E59_cpy r B) n 0 1000 r 0 (by omega) (by omega) hR hW e16 rfl rfl (by unfold sub; rw [Int32.zero_and])
  refine ⟨cpyN r B 59, r', h1, ?_⟩
  unfold fX11_opensAll
  rw [m_keepNow, bd_e, show FZ mo z B r 14 = r from rfl, show FZ mo z B r 35 = B from rfl, FZ_35]
  have e := m_all12 (FZ mo z (cpyN r B 59) r) hK hn e16 (nI j) 0 (n - 1) 1 1000 (by omega) (by omega) (by omega)
  rw [show K ^ (1 - 1) = 1 from by rw [Nat.sub_self, Nat.pow_zero]] at e
  rw [miss_w, Nat.mod_eq_of_lt hj] at h2
  exact e.trans h2
theorem AG_refl (G Fb : Nat) (a b c d e f : Row) : AG G Fb a b c d e f a b c d e f := ⟨fun _ _ => ⟨rfl, rfl, rfl⟩, fun _ _ => ⟨rfl, rfl, rfl⟩⟩
theorem pm_cg {kd pc wn fk fr sec : Row} {G Fb : Nat} {E : Int32} {K : Nat} (hK : K ≤ 8) (hp : PI G Fb kd pc wn fk fr sec) : ∀ (n : Nat) (r r' : Row) (m : Int32) (j : Nat), RR G Fb r r' → RI G Fb r' → WC G r' → r' 16 = nI K → j < K ^ n → pm kd pc wn sec G Fb E K n r m j = pm kd pc wn sec G Fb E K n r' m j := by
  intro n
  induction n with
  | zero => intro r r' m j _ _ _ _ _; rfl
  | succ n ih =>
    intro r r' m j hRR hR hW e16 hj
    have hi : j / K ^ n < K := by rw [Nat.pow_succ] at hj; exact Nat.div_lt_of_lt_mul hj
    have hpos : 0 < K ^ n := by
      rcases Nat.eq_zero_or_pos (K ^ n) with h | h
      · rw [Nat.pow_succ, h] at hj; omega
      · exact h
    have cg := cg_send hp (AG_refl G Fb kd pc wn fk fr sec) (r' 15) E (r' (17 + j / K ^ n)) G 0 0 r r' (by omega) hRR hR hW
    have es : sg kd pc wn sec G Fb E r (j / K ^ n) = ssend kd pc wn sec Fb (r' 15) E (r' (17 + j / K ^ n)) G 0 0 r := by
      unfold sg
      rw [hRR.1 _ ok15, hRR.2 _ (by omega) (by rw [e16]; exact nI_lt (by omega) (by omega))]
    have f1 := sg_facts (E := E) hp hR hW (j / K ^ n)
    rw [pm, pm, es, cg.1]
    exact ih _ _ _ _ cg.2 f1.1 f1.2.1 (by rw [f1.2.2.2 16 (by omega)]; exact e16) (Nat.mod_lt _ hpos)
theorem RR_refl {G : Nat} (Fb : Nat) (r : Row) : RR G Fb r r := ⟨fun _ _ => rfl, fun _ _ _ => rfl⟩
theorem Zk_upd {mo : Grp} {z : Row} (h : Zk mo z) {i : Nat} (hi : i = 35 ∨ i = 36) (v : Int32) : Zk mo (upd z i v) := fun j h1 h2 => by rw [upd_ne (by omega)]; exact h j h1 h2
theorem m_find49 {mo : Grp} {G Fb K n : Nat} (hM : MP mo G Fb) {r0 : Row} (hK : K ≤ 8) (hn : n ≤ 3) (hn1 : 1 ≤ n) (hR : RI G Fb r0) (hW : WC G r0) (e16 : r0 16 = nI K) : ∀ (c j fu : Nat) (z B r : Row), j + c = K ^ n → c + 1 ≤ fu → E59 r r0 → Zk mo z → z 35 = -1 →
    ∃ z' B' r', fX11_findRow_49 fu (FZ mo z B r) (nI (K ^ n)) (nI n) (nI j) = some (nI (K ^ n), nI n, FZ mo z' B' r') ∧ E59 r' r0 ∧ Zk mo z' ∧ (match lf (pm (mo 5) (mo 6) (mo 7) (mo 12) G Fb (mo 0 2) K n r0 (srch (mo 6) (mo 0 2) r0 G 0 0)) c j with | none => z' 35 = -1 | some t => z' 35 = nI n ∧ z' 36 = nI t) := by
  have hF := hM.2.2.2.1
  have hp := pow8 hK hn
  intro c
  induction c with
  | zero =>
    intro j fu z B r hj hfu hr hz h35
    obtain ⟨fu, rfl⟩ : ∃ z, fu = z + 1 := ⟨fu - 1, by omega⟩
    refine ⟨z, B, r, ?_, hr, hz, h35⟩
    rw [fX11_findRow_49, if_neg (nI_nlt (by omega) (by omega))]
  | succ c ih =>
    intro j fu z B r hj hfu hr hz h35
    obtain ⟨fu, rfl⟩ : ∃ z, fu = z + 1 := ⟨fu - 1, by omega⟩
    obtain ⟨B1, r1, q1, q2⟩ := m_all (B := B) (n := n) (j := j) hM hz hK hn hn1 (by omega) (E59_RI hF hr hR) (E59_WC hr hW) (by rw [hr 16 (by omega)]; exact e16)
    have hr1 : E59 r1 r0 := fun i hi => (q1 i hi).trans (hr i hi)
    have esr : srch (mo 6) (mo 0 2) r G 0 0 = srch (mo 6) (mo 0 2) r0 G 0 0 := srch_cg (G := G) (fun _ _ => rfl) (hr 25 (by omega)) (hr 15 (by omega)) G 0 0 (by omega)
    have hpm : pm (mo 5) (mo 6) (mo 7) (mo 12) G Fb (mo 0 2) K n r (srch (mo 6) (mo 0 2) r G 0 0) j = pm (mo 5) (mo 6) (mo 7) (mo 12) G Fb (mo 0 2) K n r0 (srch (mo 6) (mo 0 2) r0 G 0 0) j := by
      rw [esr]
      exact (pm_cg hK hM.2.2 n r0 r _ j (E59_RR hr (RR_refl Fb r0)) (E59_RI hF hr hR) (E59_WC hr hW) (by rw [hr 16 (by omega)]; exact e16) (by omega)).symm
    rw [hpm] at q2
    rw [fX11_findRow_49, if_pos (nI_lt (by omega) (by omega)), show FZ mo z B r 0 35 = z 35 from rfl, h35, if_pos (show (-1 : Int32) < 0 by decide), q2, bd_e, lf]
    simp only [lt_e, FZ_wr, ix1]
    by_cases hb : pm (mo 5) (mo 6) (mo 7) (mo 12) G Fb (mo 0 2) K n r0 (srch (mo 6) (mo 0 2) r0 G 0 0) j = true
    · rw [if_pos hb, if_pos hb, if_neg i10]
      refine ⟨upd (upd z 35 (nI n)) 36 (nI j), B1, r1, ?_, hr1, Zk_upd (Zk_upd hz (Or.inl rfl) _) (Or.inr rfl) _, ?_⟩
      · obtain ⟨fu, rfl⟩ : ∃ z, fu = z + 1 := ⟨fu - 1, by omega⟩
        rw [fX11_findRow_49, show FZ mo (upd (upd z 35 (nI n)) 36 (nI j)) B1 r1 0 35 = nI n from by
          show upd (upd z 35 (nI n)) 36 (nI j) 35 = nI n
          rw [upd_ne (by omega), upd_at], if_neg (nI_pos (by omega))]
        split <;> rfl
      · exact ⟨by rw [upd_ne (by omega), upd_at], by rw [upd_at]⟩
    · rw [if_neg hb, if_neg hb, if_pos i00]
      exact ih (j + 1) fu _ B1 r1 (by omega) (by omega) hr1 (Zk_upd (Zk_upd hz (Or.inl rfl) _) (Or.inr rfl) _) (by rw [upd_ne (by omega), upd_at])
theorem m_find25 {mo : Grp} {G Fb K : Nat} (hM : MP mo G Fb) {r0 : Row} (hK : K ≤ 8) (hR : RI G Fb r0) (hW : WC G r0) (e16 : r0 16 = nI K) : ∀ (c n fu : Nat) (z B r : Row), n + c = 4 → 1 ≤ n → c + 2 ≤ fu → E59 r r0 → Zk mo z → z 35 = -1 →
    ∃ z' B' r', fX11_findRow_25 fu (FZ mo z B r) (nI (K ^ (n - 1))) (nI n) = some (FZ mo z' B' r') ∧ E59 r' r0 ∧ Zk mo z' ∧ ((z' 35 = -1 ∧ ∀ n', n ≤ n' → n' ≤ 3 → cu (mo 5) (mo 6) (mo 7) (mo 12) G Fb (mo 0 2) K n' r0 (srch (mo 6) (mo 0 2) r0 G 0 0) = none) ∨
      ∃ n' t, n ≤ n' ∧ n' ≤ 3 ∧ z' 35 = nI n' ∧ z' 36 = nI t ∧ cu (mo 5) (mo 6) (mo 7) (mo 12) G Fb (mo 0 2) K n' r0 (srch (mo 6) (mo 0 2) r0 G 0 0) = some t ∧ ∀ n'', n ≤ n'' → n'' < n' → cu (mo 5) (mo 6) (mo 7) (mo 12) G Fb (mo 0 2) K n'' r0 (srch (mo 6) (mo 0 2) r0 G 0 0) = none) := by
  intro c
  induction c with
  | zero =>
    intro n fu z B r hn h1 hfu hr hz h35
    obtain ⟨fu, rfl⟩ : ∃ z, fu = z + 1 := ⟨fu - 1, by omega⟩
    obtain rfl : n = 4 := by omega
    refine ⟨z, B, r, ?_, hr, hz, Or.inl ⟨h35, fun n' a b => by omega⟩⟩
    rw [fX11_findRow_25, if_neg (show ¬ nI 4 ≤ 3 by decide)]
  | succ c ih =>
    intro n fu z B r hn h1 hfu hr hz h35
    obtain ⟨fu, rfl⟩ : ∃ z, fu = z + 1 := ⟨fu - 1, by omega⟩
    have hp := pow8 (q := n) hK (by omega)
    obtain ⟨z1, B1, r1, q1, q2, q3, q4⟩ := m_find49 (n := n) hM hK (by omega) h1 hR hW e16 (K ^ n) 0 1000 z B r (by omega) (by omega) hr hz h35
    rw [← cu_lf] at q4
    rw [fX11_findRow_25, if_pos (show nI n ≤ 3 from nI_le (b := 3) (by omega) (by omega)), show FZ mo z B r 0 35 = z 35 from rfl, h35, if_pos (show (-1 : Int32) < 0 by decide), ab_l (x := 16) (by decide) (by decide), show FZ mo z B r 14 (16 : Int32).toNatClampNeg = nI K from (hr 16 (by omega)).trans e16, lt_e, nI_mul, ← Nat.pow_succ, show (n - 1).succ = n from by omega, show (0 : Int32) = nI 0 from rfl, q1, bd_e]
    dsimp only
    rw [lt_e, ix1]
    cases hc : cu (mo 5) (mo 6) (mo 7) (mo 12) G Fb (mo 0 2) K n r0 (srch (mo 6) (mo 0 2) r0 G 0 0) with
    | none =>
      rw [show nI 0 = (0 : Int32) from rfl] at *
      rw [hc] at q4
      obtain ⟨z', B', r', a1, a2, a3, a4⟩ := ih (n + 1) fu z1 B1 r1 (by omega) (by omega) (by omega) q2 q3 q4
      refine ⟨z', B', r', a1, a2, a3, ?_⟩
      rcases a4 with ⟨a4, a5⟩ | ⟨n', t, b1, b2, b3, b4, b5, b6⟩
      · refine Or.inl ⟨a4, fun n' h1 h2 => ?_⟩
        by_cases e : n' = n
        · rw [e]; exact hc
        · exact a5 n' (by omega) h2
      · refine Or.inr ⟨n', t, by omega, b2, b3, b4, b5, fun n'' h1 h2 => ?_⟩
        by_cases e : n'' = n
        · rw [e]; exact hc
        · exact b6 n'' (by omega) h2
    | some t =>
      rw [show nI 0 = (0 : Int32) from rfl] at *
      rw [hc] at q4
      refine ⟨z1, B1, r1, ?_, q2, q3, Or.inr ⟨n, t, by omega, by omega, q4.1, q4.2, hc, fun n'' h1 h2 => by omega⟩⟩
      obtain ⟨fu, rfl⟩ : ∃ z, fu = z + 1 := ⟨fu - 1, by omega⟩
      rw [fX11_findRow_25, show FZ mo z1 B1 r1 0 35 = z1 35 from rfl, q4.1, if_neg (nI_pos (by omega))]
      split <;> rfl
theorem m_find {mo : Grp} {G Fb K : Nat} (hM : MP mo G Fb) (hK : K ≤ 8) (hR : RI G Fb (mo 14)) (hW : WC G (mo 14)) (e16 : mo 14 16 = nI K) :
    ∃ z' B' r', fX11_findRow mo = some (FZ mo z' B' r') ∧ E59 r' (mo 14) ∧ Zk mo z' ∧ ((z' 35 = -1 ∧ ∀ n', n' ≤ 3 → cu (mo 5) (mo 6) (mo 7) (mo 12) G Fb (mo 0 2) K n' (mo 14) (srch (mo 6) (mo 0 2) (mo 14) G 0 0) = none) ∨
      ∃ n' t, n' ≤ 3 ∧ z' 35 = nI n' ∧ (1 ≤ n' → z' 36 = nI t) ∧ cu (mo 5) (mo 6) (mo 7) (mo 12) G Fb (mo 0 2) K n' (mo 14) (srch (mo 6) (mo 0 2) (mo 14) G 0 0) = some t ∧ ∀ n'', n'' < n' → cu (mo 5) (mo 6) (mo 7) (mo 12) G Fb (mo 0 2) K n'' (mo 14) (srch (mo 6) (mo 0 2) (mo 14) G 0 0) = none) := by
  have e0 : ∀ v : Int32, wr (wr mo 0 35 v) 0 36 0 = FZ mo (upd (upd (mo 0) 35 v) 36 0) (mo 35) (mo 14) := by
    intro v
    have h : mo = FZ mo (mo 0) (mo 35) (mo 14) := by
      unfold FZ
      rw [wa_self, wa_self, wa_self]
    rw [← FZ_wr, ← FZ_wr, ← h]
  have hz : ∀ v : Int32, Zk mo (upd (upd (mo 0) 35 v) 36 0) := fun v => Zk_upd (Zk_upd (fun _ _ _ => rfl) (Or.inl rfl) _) (Or.inr rfl) _
  unfold fX11_findRow
  rw [m_reach mo hM, bd_e, lt_e, lt_e, lt_e, e0]
  by_cases hw : srch (mo 6) (mo 0 2) (mo 14) G 0 0 = 0
  · rw [if_pos hw]
    refine ⟨_, mo 35, mo 14, ?_, fun _ _ => rfl, hz 0, Or.inr ⟨0, 0, by omega, ?_, by omega, ?_, fun n'' h => by omega⟩⟩
    · rw [fX11_findRow_25, if_pos (show (1 : Int32) ≤ 3 by decide), show FZ mo (upd (upd (mo 0) 35 0) 36 0) (mo 35) (mo 14) 0 35 = 0 from by
        show upd (upd (mo 0) 35 0) 36 0 35 = 0
        rw [upd_ne (by omega), upd_at], if_neg (show ¬ (0 : Int32) < 0 by decide)]
    · rw [upd_ne (by omega), upd_at]; rfl
    · rw [cu, if_pos hw]
  · rw [if_neg hw]
    obtain ⟨z', B', r', a1, a2, a3, a4⟩ := m_find25 (r0 := mo 14) hM hK hR hW e16 3 1 1000 _ (mo 35) (mo 14) (by omega) (by omega) (by omega) (fun _ _ => rfl) (hz (-1)) (by rw [upd_ne (by omega), upd_at])
    have h0 : cu (mo 5) (mo 6) (mo 7) (mo 12) G Fb (mo 0 2) K 0 (mo 14) (srch (mo 6) (mo 0 2) (mo 14) G 0 0) = none := by rw [cu, if_neg hw]
    refine ⟨z', B', r', a1, a2, a3, ?_⟩
    rcases a4 with ⟨a4, a5⟩ | ⟨n', t, b1, b2, b3, b4, b5, b6⟩
    · refine Or.inl ⟨a4, fun n' h1 => ?_⟩
      by_cases e : n' = 0
      · rw [e]; exact h0
      · exact a5 n' (by omega) h1
    · refine Or.inr ⟨n', t, b2, b3, fun _ => b4, b5, fun n'' h1 => ?_⟩
      by_cases e : n'' = 0
      · rw [e]; exact h0
      · exact b6 n'' (by omega) h1
theorem m_row51 (mo : Grp) {K x : Nat} (hK : K ≤ 8) (h0 : 0 < K) (e16 : mo 14 16 = nI K) : ∀ (c t fu : Nat), t < 1000 → x + c ≤ 3 → c + 1 ≤ fu → fX11_row_51 fu mo (nI x) (nI t) (nI (x + c)) = some (nI (t / K ^ c % K), mo) := by
  intro c
  induction c with
  | zero =>
    intro t fu ht hx hfu
    obtain ⟨fu, rfl⟩ : ∃ z, fu = z + 1 := ⟨fu - 1, by omega⟩
    rw [fX11_row_51, if_pos (nI_le (by omega) (by omega)), ab_l (x := 16) (by decide) (by decide), show (16 : Int32).toNatClampNeg = 16 from rfl, e16, nz_e (by
      intro e
      have := (nI_inj (a := K) (b := 0) (by omega) (by omega)).mp e
      omega), jrem_nI (by omega) h0 (by omega), Nat.pow_zero, Nat.div_one]
  | succ c ih =>
    intro t fu ht hx hfu
    obtain ⟨fu, rfl⟩ : ∃ z, fu = z + 1 := ⟨fu - 1, by omega⟩
    have hd : t / K ≤ t := Nat.div_le_self _ _
    rw [fX11_row_51, if_neg (fun e => by have := (nI_le_iff (by omega) (by omega)).mp e; omega), ab_l (x := 16) (by decide) (by decide), show (16 : Int32).toNatClampNeg = 16 from rfl, e16, nz_e (by
      intro e
      have := (nI_inj (a := K) (b := 0) (by omega) (by omega)).mp e
      omega), lt_e, lt_e, show nI t / nI K = nI (t / K) from pk_div (by omega) h0 (by omega), show nI (x + (c + 1)) + -1 = nI (x + c) from by rw [← Nat.add_assoc, ← ix1, Int32.add_assoc, show (1 : Int32) + -1 = 0 from rfl, Int32.add_zero], ih (t / K) fu (by omega) (by omega) (by omega), Nat.div_div_eq_div_mul, Nat.pow_succ']
theorem INV_row {G Fb : Nat} {σ σ' : Mem} (h : INV G Fb σ) (hs : ∀ t k, ¬ (t = 6 ∧ k = 0) → ¬ (t = 7 ∧ 20 ≤ k ∧ k < 24) → σ' t k = σ t k) {z B r : Row} (hz : Zk (σ 11 0) z) (hr : E59 r (σ 11 0 14)) : INV G Fb (upM σ' 11 0 (FZ (σ 11 0) z B r)) := by
  have hF := h.1.1.2.2.2.1
  have eo : ∀ t k, ¬ t = 11 → ¬ t = 6 → ¬ (t = 7 ∧ 20 ≤ k) → upM σ' 11 0 (FZ (σ 11 0) z B r) t k = σ t k := fun t k h1 h2 h3 => by
    rw [upM_ne (fun e => h1 e.1)]
    exact hs t k (by omega) (by omega)
  have e11 : upM σ' 11 0 (FZ (σ 11 0) z B r) 11 0 = FZ (σ 11 0) z B r := upM_same _ _ _ _
  obtain ⟨h1, h2, h3, h4, h5, h6, h7, h8, h9⟩ := h
  unfold INV
  rw [e11, eo 4 0 (by omega) (by omega) (by omega), eo 7 0 (by omega) (by omega) (by omega), eo 9 0 (by omega) (by omega) (by omega), eo 10 0 (by omega) (by omega) (by omega), eo 3 0 (by omega) (by omega) (by omega), eo 2 0 (by omega) (by omega) (by omega), eo 8 0 (by omega) (by omega) (by omega), eo 0 0 (by omega) (by omega) (by omega), eo 1 0 (by omega) (by omega) (by omega)]
  have ez : ∀ i, ¬ i = 35 → ¬ i = 36 → FZ (σ 11 0) z B r 0 i = σ 11 0 0 i := fun i a b => hz i a b
  refine ⟨⟨h1.1, FZ_MP h1.2.1 hz B r, h1.2.2.1, ?_⟩, SS_E59 hF hr h2, ?_, ?_, ?_, ?_, ?_, ?_, ?_⟩
  · rw [ez 0 (by omega) (by omega), ez 2 (by omega) (by omega)]
    exact h1.2.2.2
  · obtain ⟨n, a1, a2, a3, a4⟩ := h3
    exact ⟨n, a1, a2, by rw [ez 16 (by omega) (by omega)]; exact a3, a4⟩
  · rw [ez 17 (by omega) (by omega)]; exact h4
  · obtain ⟨s, nx, a1, a2, a3, a4, a5, a6⟩ := h5
    exact Pa_sc ⟨s, nx, a1, a2, a3, a4, by rw [ez 32 (by omega) (by omega)]; exact a5, a6⟩ (fun k _ _ => eo 7 k (by omega) (by omega) (by omega))
  · exact Ig_sc (mo := FZ (σ 11 0) z B r) h6 (fun k _ _ => eo 7 k (by omega) (by omega) (by omega))
  · obtain ⟨n, a1, a2, a3, a4⟩ := h7
    exact ⟨n, a1, a2, by rw [ez 37 (by omega) (by omega)]; exact a3, a4⟩
  · obtain ⟨n, a1, a2, a3, a4⟩ := h8
    exact ⟨n, a1, a2, by rw [ez 41 (by omega) (by omega)]; exact a3, a4⟩
  · unfold Dw
    rw [ez 14 (by omega) (by omega)]
    exact h9
theorem cu_lt {kd pc wn sec : Row} {G Fb : Nat} {E : Int32} {K : Nat} : ∀ (n : Nat) (r : Row) (m : Int32) (t : Nat), cu kd pc wn sec G Fb E K n r m = some t → t < K ^ n := by
  intro n
  induction n with
  | zero =>
    intro r m t h
    rw [cu] at h
    split at h
    · injection h with h; rw [Nat.pow_zero]; omega
    · cases h
  | succ n ih =>
    intro r m t h
    rw [cu] at h
    obtain ⟨j, q, h1, h2, h3, h4, h5⟩ := ff_lt (b := K ^ n) K 0 t (fun i q hq => ih _ _ _ hq) h
    have : (j + 1) * K ^ n ≤ K * K ^ n := Nat.mul_le_mul_right _ (by omega)
    rw [Nat.succ_mul] at this
    rw [Nat.pow_succ', h5]
    omega
theorem w_row {G Fb : Nat} {σ : Mem} (h : INV G Fb σ) (x : Int32) : SW (fX10_row σ x) (fX11_row (σ 11 0) x) σ := by
  obtain ⟨K, hK, eK⟩ := h.2.1.2.1.2.2.1
  obtain ⟨σ', c1, c2⟩ := c_find h (K := K) (by omega) eK
  obtain ⟨z, B, r, m1, m2, m3, m4⟩ := m_find h.1.2.1 (K := K) (by omega) h.2.1.2.1 h.2.1.2.2.1 eK
  have hI := INV_row (B := B) h c1 m3 m2
  have e11 : σ' 11 0 = σ 11 0 := c1 11 0 (by omega) (by omega)
  have e35 : FZ (σ 11 0) z B r 0 35 = z 35 := rfl
  have e36 : FZ (σ 11 0) z B r 0 36 = z 36 := rfl
  unfold fX10_row fX11_row fX11_row_25
  rw [m1, bd_e]
  rcases c2 with ⟨c2, c3⟩ | ⟨L, t, c2, c3, c4, c5, c6⟩
  · have hz : z 35 = -1 := by
      rcases m4 with ⟨m4, _⟩ | ⟨n', t, b1, b2, b3, b4, _⟩
      · exact m4
      · rw [c3 n' b1] at b4; cases b4
    rw [c2, bd_e, e35, hz]
    dsimp only
    by_cases hx : x = -1
    · rw [if_pos hx, if_pos hx, if_pos hx]
      exact ⟨_, _, _, rfl, e11, rfl, G, Fb, hI⟩
    · rw [if_neg hx, if_neg hx, if_neg hx]
      have hin : fX11_in x.toInt64 (0 : Int64) ((-1 : Int32) - 1).toInt64 = some 0 := by
        rw [m_in0, if_neg]
        intro a
        have := Int32.le_trans a.1 a.2
        exact absurd this (by decide)
      rw [hin, bd_e, if_pos i00]
      refine ⟨-1, _, _, ?_, e11, rfl, G, Fb, hI⟩
      by_cases h0 : x < 0
      · rw [if_pos h0]
      · rw [if_neg h0, if_neg (fun a => by
          have h1 := Int32.lt_iff_toInt_lt.mp a
          have h2 := Int32.le_iff_toInt_le.mp (Int32.not_lt.mp h0)
          rw [show (-1 : Int32).toInt = -1 from rfl] at h1
          rw [show (0 : Int32).toInt = 0 from rfl] at h2
          omega)]
  · have hz : z 35 = nI L ∧ (1 ≤ L → z 36 = nI t) := by
      rcases m4 with ⟨_, m4⟩ | ⟨n', t', b1, b2, b3, b4, b5⟩
      · rw [m4 L c2] at c5; cases c5
      · have : n' = L := by
          rcases Nat.lt_trichotomy n' L with q | q | q
          · rw [c4 n' q] at b4; cases b4
          · exact q
          · rw [b5 L q] at c5; cases c5
        subst this
        rw [b4] at c5
        injection c5 with c5
        subst c5
        exact ⟨b2, b3⟩
    rw [c3, bd_e, e35, hz.1]
    dsimp only
    by_cases hx : x = -1
    · rw [if_pos hx, if_pos hx, if_pos hx]
      exact ⟨_, _, _, rfl, e11, rfl, G, Fb, hI⟩
    · rw [if_neg hx, if_neg hx, if_neg hx]
      rcases m_inF (Fb := L) (by omega) x with ⟨k, hk, rfl, a1⟩ | ⟨_, a1, a2⟩
      · have hlt := cu_lt _ _ _ _ c5
        have h0 : 0 < K := by
          rcases Nat.eq_zero_or_pos K with h | h
          · rw [h, Nat.zero_pow (by omega)] at hlt; omega
          · exact h
        have hp := pow8 (K := K) (q := L) (by omega) c2
        rw [if_neg (nI_pos (by omega)), if_pos (nI_lt (by omega) (by omega)), ab_e (by omega) (by omega), nI_clamp (by omega), c6 k hk, a1, bd_e, if_neg i10, lt_e, lt_e, e36, hz.2 (by omega)]
        have e51 := m_row51 (FZ (σ 11 0) z B r) (K := K) (x := k) (by omega) h0 ((m2 16 (by omega)).trans eK) (L - 1 - k) t 1000 (by omega) (by omega) (by omega)
        rw [show k + (L - 1 - k) = L - 1 from by omega] at e51
        rw [show nI L - 1 = nI (L - 1) from pk_sub (b := 1) (by omega), e51]
        exact ⟨_, _, _, rfl, e11, rfl, G, Fb, hI⟩
      · rw [a1, bd_e, if_pos i00]
        refine ⟨-1, _, _, ?_, e11, rfl, G, Fb, hI⟩
        rcases a2 with a2 | ⟨a2, a3⟩
        · rw [if_pos a2]
        · rw [if_neg a2, if_neg a3]
