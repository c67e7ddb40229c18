/-! the model's search -/
theorem m_reach4 (mo : Grp) {G Fb : Nat} (hM : MP mo G Fb) : ∀ (n g fu : Nat) (s : Int32), g + n = G → n + 1 ≤ fu → fX11_inReach_4 mo fu s (nI g) = some (srch (mo 6) (mo 0 2) (mo 14) n g s) := by
  have hG := hM.2.2.1
  intro n
  induction n with
  | zero =>
    intro g fu s hg hfu
    obtain ⟨fu, rfl⟩ : ∃ z, fu = z + 1 := ⟨fu - 1, by omega⟩
    rw [fX11_inReach_4, hM.1, if_neg (nI_nlt (by omega) (by omega)), srch]
  | succ n ih =>
    intro g fu s hg hfu
    obtain ⟨fu, rfl⟩ : ∃ z, fu = z + 1 := ⟨fu - 1, by omega⟩
    rw [fX11_inReach_4, hM.1, if_pos (nI_lt (by omega) (by omega)), ab_l (by decide) (by decide), show (25 : Int32).toNatClampNeg = 25 from rfl, m_has, bd_e, ab_l (x := 15) (by decide) (by decide), show (15 : Int32).toNatClampNeg = 15 from rfl, ab_e (by omega) (by omega), nI_clamp (by omega), m_far, bd_e, srch]
    simp only [lt_e, ix1, Int32.or_zero]
    by_cases h1 : (mo 14 25 >>> (nI g &&& 31)) &&& 1 = 1
    · rw [if_pos h1, if_neg i10, if_neg (fun a => a.1 h1)]
      exact ih (g + 1) fu _ (by omega) (by omega)
    · rw [if_neg h1, if_pos i00]
      by_cases h2 : sfar (mo 14 15) (mo 6 g) ≤ mo 0 2
      · rw [if_pos h2, if_pos (show _ ∧ _ from ⟨h1, h2⟩)]
        exact ih (g + 1) fu _ (by omega) (by omega)
      · rw [if_neg h2, if_neg (fun a => h2 a.2)]
        exact ih (g + 1) fu _ (by omega) (by omega)
theorem m_reach (mo : Grp) {G Fb : Nat} (hM : MP mo G Fb) : fX11_inReach mo = some (srch (mo 6) (mo 0 2) (mo 14) G 0 0) := by
  have hG := hM.2.2.1
  exact m_reach4 mo hM G 0 1000 0 (by omega) (by omega)
def sub (a b : Int32) : Prop := a &&& b = a
theorem sub_bt {a b : Int32} (h : sub a b) (g : Nat) : bt a g = true → bt b g = true := by
  intro h1
  have e := congrArg (fun x => bt x g) h
  rw [bt_and, h1, Bool.true_and] at e
  rw [e]
theorem bt_sub {a b : Int32} (h : ∀ g, g < 32 → bt a g = true → bt b g = true) : sub a b := by
  refine bt_ext (fun g hg => ?_)
  rw [bt_and]
  cases h1 : bt a g with
  | false => rfl
  | true => rw [h g hg h1]; rfl
theorem sub_or {a b : Int32} (c : Int32) (h : sub a b) : sub (a ||| c) (b ||| c) := by
  refine bt_sub (fun g hg h1 => ?_)
  rw [bt_or] at h1 ⊢
  rw [Bool.or_eq_true] at h1 ⊢
  exact h1.imp (sub_bt h g) id
theorem sub_or2 {a b : Int32} (c : Int32) (h : sub a b) : sub a (b ||| c) := by
  refine bt_sub (fun g hg h1 => ?_)
  rw [bt_or, Bool.or_eq_true]
  exact Or.inl (sub_bt h g h1)
theorem sub_orr {a b c : Int32} (h : sub a c) (h2 : sub b c) : sub (a ||| b) c := by
  refine bt_sub (fun g hg h1 => ?_)
  rw [bt_or, Bool.or_eq_true] at h1
  exact h1.elim (sub_bt h g) (sub_bt h2 g)
theorem miss_or (w s t : Int32) : w &&& ((s ||| t) ^^^ -1) = (w &&& (s ^^^ -1)) &&& (t ^^^ -1) := by
  refine bt_ext (fun g hg => ?_)
  rw [bt_and, bt_not _ hg, bt_or, bt_and, bt_and, bt_not _ hg, bt_not _ hg, Bool.not_or, Bool.and_assoc]
theorem miss_0 {s w : Int32} (h : sub s w) : s = w ↔ w &&& (s ^^^ -1) = 0 := by
  constructor
  · intro e
    rw [e]
    refine bt_ext (fun g hg => ?_)
    rw [bt_and, bt_not _ hg, bt_0]
    cases bt w g <;> rfl
  · intro e
    refine bt_ext (fun g hg => ?_)
    have e2 := congrArg (fun x => bt x g) e
    rw [bt_and, bt_not _ hg, bt_0] at e2
    cases h1 : bt s g with
    | true => rw [sub_bt h g h1]
    | false =>
      rw [h1] at e2
      cases h2 : bt w g with
      | false => rfl
      | true => rw [h2] at e2; cases e2
theorem miss_w (w : Int32) : w &&& ((0 : Int32) ^^^ -1) = w := by
  refine bt_ext (fun g hg => ?_)
  rw [bt_and, bt_not _ hg, bt_0]
  cases bt w g <;> rfl
theorem ssend_sub {kd pc wn sec r0 : Row} {Fb : Nat} {E code : Int32} : ∀ (n g : Nat) (s s' : Int32) (r : Row), r 25 = r0 25 → sub s s' → sub (ssend kd pc wn sec Fb (r0 15) E code n g s r).1 (srch pc E r0 n g s') := by
  intro n
  induction n with
  | zero => intro g s s' r _ h; exact h
  | succ n ih =>
    intro g s s' r h25 h
    rw [ssend, srch, h25]
    by_cases hh : ¬ (r0 25 >>> (nI g &&& 31)) &&& 1 = 1 ∧ sfar (r0 15) (pc g) ≤ E
    · rw [if_pos hh, if_pos hh]
      refine ih (g + 1) _ _ _ (by rw [shears_low (by omega)]; exact h25) ?_
      split
      · exact sub_or2 _ h
      · exact sub_or _ h
    · rw [if_neg hh, if_neg hh]
      exact ih (g + 1) _ _ _ h25 h
def FZ (mo : Grp) (z B r : Row) : Grp := wa (wa (wa mo 0 z) 35 B) 14 r
theorem FZ_wr (mo : Grp) (z B r : Row) (i : Nat) (v : Int32) : wr (FZ mo z B r) 0 i v = FZ mo (upd z i v) B r := by
  unfold FZ
  funext j
  by_cases h0 : j = 0
  · subst h0
    rw [wr_row]
    rfl
  · rw [wr_oth _ h0]
    by_cases h14 : j = 14
    · subst h14; rfl
    · rw [wa_oth _ h14, wa_oth _ h14]
      by_cases h35 : j = 35
      · subst h35; rfl
      · rw [wa_oth _ h35, wa_oth _ h35, wa_oth _ h0, wa_oth _ h0]
theorem FZ_14 (mo : Grp) (z B r r' : Row) : wa (FZ mo z B r) 14 r' = FZ mo z B r' := by
  unfold FZ
  rw [wa_wa]
theorem FZ_35 (mo : Grp) (z B r B' : Row) : wa (FZ mo z B r) 35 B' = FZ mo z B' r := by
  unfold FZ
  funext j
  by_cases h35 : j = 35
  · subst h35
    rw [wa_row, wa_oth _ (by omega), wa_row]
  · rw [wa_oth _ h35]
    by_cases h14 : j = 14
    · subst h14; rw [wa_row, wa_row]
    · rw [wa_oth _ h14, wa_oth _ h14, wa_oth _ h35, wa_oth _ h35]
def Zk (mo : Grp) (z : Row) : Prop := ∀ i, ¬ i = 35 → ¬ i = 36 → z i = mo 0 i
theorem FZ_MP {mo : Grp} {G Fb : Nat} (h : MP mo G Fb) {z : Row} (hz : Zk mo z) (B r : Row) : MP (FZ mo z B r) G Fb := ⟨(hz 3 (by omega) (by omega)).trans h.1, (hz 7 (by omega) (by omega)).trans h.2.1, h.2.2⟩
theorem pow8 {K q : Nat} (hK : K ≤ 8) (hq : q ≤ 3) : K ^ q ≤ 512 := by
  have h1 : K ^ q ≤ 8 ^ q := Nat.pow_le_pow_left hK q
  have h2 : 8 ^ q ≤ 8 ^ 3 := Nat.pow_le_pow_right (by omega) hq
  have : 8 ^ 3 = 512 := rfl
  omega
theorem m_all39 {mo : Grp} {G Fb K n j : Nat} (hM : MP mo G Fb) {z B r0 : Row} (hz : Zk mo z) (hK : K ≤ 8) (h0 : 0 < K) (hn : n ≤ 3) (hj : j < 1000) (hB : E59 B r0) : ∀ (q k fu : Nat) (r : Row) (s : Int32), k + q = n → q + 1 ≤ fu → RI G Fb r → WC G r → r 16 = nI K → r 15 = r0 15 → r 25 = r0 25 → sub s (srch (mo 6) (mo 0 2) r0 G 0 0) →
    ∃ r', E59 r' r0 ∧ fX11_opensAll_39 fu (FZ mo z B r) (nI j) (nI n) s (nI (K ^ (q - 1))) (nI k) = some (if pm (mo 5) (mo 6) (mo 7) (mo 12) G Fb (mo 0 2) K q r (srch (mo 6) (mo 0 2) r0 G 0 0 &&& (s ^^^ -1)) (j % K ^ q) = true then 1 else 0, FZ mo z B r') := by
  intro q
  induction q with
  | zero =>
    intro k fu r s hk hfu hR hW e16 e15 e25 hs
    obtain ⟨fu, rfl⟩ : ∃ z, fu = z + 1 := ⟨fu - 1, by omega⟩
    refine ⟨cpyN B r 59, fun i hi => by rw [E59_cpy B r i hi]; exact hB i hi, ?_⟩
    have hpb : fX11_putBack (FZ mo z B r) = some (FZ mo z B (cpyN B r 59)) := by
      rw [m_putBack, FZ_14]; rfl
    have hre := m_reach _ (FZ_MP hM hz B (cpyN B r 59))
    rw [show FZ mo z B (cpyN B r 59) 6 = mo 6 from rfl, show FZ mo z B (cpyN B r 59) 14 = cpyN B r 59 from rfl, show FZ mo z B (cpyN B r 59) 0 2 = mo 0 2 from hz 2 (by omega) (by omega), srch_cg (pc' := mo 6) (r' := r0) (G := G) (fun _ _ => rfl) (by rw [E59_cpy B r 25 (by omega)]; exact hB 25 (by omega)) (by rw [E59_cpy B r 15 (by omega)]; exact hB 15 (by omega)) G 0 0 (by omega)] at hre
    rw [fX11_opensAll_39, if_neg (nI_nlt (by omega) (by omega)), hpb, bd_e, hre, bd_e, pm]
    by_cases h : s = srch (mo 6) (mo 0 2) r0 G 0 0
    · rw [if_pos h, decide_eq_true ((miss_0 hs).mp h), if_pos rfl]
    · rw [if_neg h, decide_eq_false (fun e => h ((miss_0 hs).mpr e)), if_neg (by decide)]
  | succ q ih =>
    intro k fu r s hk hfu hR hW e16 e15 e25 hs
    obtain ⟨fu, rfl⟩ : ∃ z, fu = z + 1 := ⟨fu - 1, by omega⟩
    have hpq := pow8 (q := q) hK (by omega)
    have hpos : 0 < K ^ q := Nat.pow_pos h0
    have hdig : j / K ^ q % K < K := Nat.mod_lt _ h0
    have hdiv : j / K ^ q ≤ j := Nat.div_le_self _ _
    have ed : jrem (nI j / nI (K ^ q)) (nI K) = nI (j / K ^ q % K) := by
      rw [show nI j / nI (K ^ q) = nI (j / K ^ q) from pk_div (by omega) hpos (by omega), jrem_nI (by omega) h0 (by omega)]
    have es := m_send _ (FZ_MP hM hz B r) hR hW (r 15) (mo 0 2) (r (17 + j / K ^ q % K))
    rw [show FZ mo z B r 5 = mo 5 from rfl, show FZ mo z B r 6 = mo 6 from rfl, show FZ mo z B r 7 = mo 7 from rfl, show FZ mo z B r 12 = mo 12 from rfl, show FZ mo z B r 14 = r from rfl, FZ_14] at es
    have esg : ssend (mo 5) (mo 6) (mo 7) (mo 12) Fb (r 15) (mo 0 2) (r (17 + j / K ^ q % K)) G 0 0 r = sg (mo 5) (mo 6) (mo 7) (mo 12) G Fb (mo 0 2) r (j / K ^ q % K) := rfl
    have hsub : sub (sg (mo 5) (mo 6) (mo 7) (mo 12) G Fb (mo 0 2) r (j / K ^ q % K)).1 (srch (mo 6) (mo 0 2) r0 G 0 0) := by
      rw [← esg, e15]
      exact ssend_sub G 0 0 0 r e25 rfl
    rw [esg] at es
    have f1 := sg_facts (E := mo 0 2) hM.2.2 hR hW (j / K ^ q % K)
    have next := ih (k + 1) fu (sg (mo 5) (mo 6) (mo 7) (mo 12) G Fb (mo 0 2) r (j / K ^ q % K)).2 (s ||| (sg (mo 5) (mo 6) (mo 7) (mo 12) G Fb (mo 0 2) r (j / K ^ q % K)).1) (by omega) (by omega) f1.1 f1.2.1 (by rw [f1.2.2.2 16 (by omega)]; exact e16) (by rw [f1.2.2.2 15 (by omega)]; exact e15) (by rw [f1.2.2.2 25 (by omega)]; exact e25) (sub_orr hs hsub)
    rw [fX11_opensAll_39, if_pos (nI_lt (by omega) (by omega)), ab_l (x := 15) (by decide) (by decide), show q + 1 - 1 = q from rfl, nz_e (by
      intro e
      have := (nI_inj (a := K ^ q) (b := 0) (by omega) (by omega)).mp e
      omega), ab_l (x := 16) (by decide) (by decide)]
    rw [show (16 : Int32).toNatClampNeg = 16 from rfl, show (15 : Int32).toNatClampNeg = 15 from rfl, show FZ mo z B r 14 = r from rfl, e16, nz_e (by
      intro e
      have := (nI_inj (a := K) (b := 0) (by omega) (by omega)).mp e
      omega), ed, ix17, ab_e (by omega) (by omega), nI_clamp (by omega), show FZ mo z B r 0 2 = mo 0 2 from hz 2 (by omega) (by omega), es, bd_e]
    dsimp only
    have h16 : FZ mo z B (sg (mo 5) (mo 6) (mo 7) (mo 12) G Fb (mo 0 2) r (j / K ^ q % K)).2 14 16 = nI K := (f1.2.2.2 16 (by omega)).trans e16
    rw [lt_e, ab_l (x := 16) (by decide) (by decide)]
    simp only [h16]
    have e1 : j % K ^ (q + 1) / K ^ q = j / K ^ q % K := by rw [Nat.pow_succ, Nat.mod_mul_right_div_self]
    have e2 : j % K ^ (q + 1) % K ^ q = j % K ^ q := Nat.mod_mod_of_dvd _ ⟨K, by rw [Nat.pow_succ]⟩
    rw [pm, e1, e2, ← miss_or]
    have d1 : ∀ a : Nat, a ≤ 512 → nI a / 1 = nI a := fun a ha => by
      rw [show nI a / 1 = nI (a / 1) from pk_div (d := 1) (by omega) (by omega) (by omega), Nat.div_one]
    by_cases hK1 : K ≤ 1
    · rw [if_pos (show nI K ≤ 1 from nI_le (b := 1) (by omega) (by omega)), lt_e, lt_e, ix1, d1 _ hpq]
      have hK2 : K = 1 := by omega
      rw [show K ^ q = K ^ (q - 1) from by rw [hK2, Nat.one_pow, Nat.one_pow]]
      rw [show K ^ q = K ^ (q - 1) from by rw [hK2, Nat.one_pow, Nat.one_pow]] at next
      exact next
    · rw [if_neg (show ¬ nI K ≤ 1 from fun e => hK1 ((nI_le_iff (b := 1) (by omega) (by omega)).mp e))]
      by_cases hq : q = 0
      · rw [if_neg (show ¬ nI k < nI n - 1 from by rw [show nI n - 1 = nI (n - 1) from pk_sub (b := 1) (by omega)]; exact nI_nlt (by omega) (by omega)), lt_e, lt_e, ix1, d1 _ hpq]
        subst hq
        exact next
      · rw [if_pos (show nI k < nI n - 1 from by rw [show nI n - 1 = nI (n - 1) from pk_sub (b := 1) (by omega)]; exact nI_lt (by omega) (by omega)), nz_e (by
          intro e
          have := (nI_inj (a := K) (b := 0) (by omega) (by omega)).mp e
          omega), lt_e, lt_e, ix1, show nI (K ^ q) / nI K = nI (K ^ q / K) from pk_div (by omega) h0 (by omega)]
        obtain ⟨q', rfl⟩ : ∃ q', q = q' + 1 := ⟨q - 1, by omega⟩
        rw [show K ^ (q' + 1) / K = K ^ (q' + 1 - 1) from by rw [Nat.pow_succ, Nat.mul_div_cancel _ h0, Nat.add_sub_cancel]]
        exact next
