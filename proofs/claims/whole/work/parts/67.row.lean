/-! rows of kept entries: the first of the shortest, with vain entries and without -/
noncomputable def sg (kd pc wn sec : Row) (G Fb : Nat) (E : Int32) (r : Row) (i : Nat) : Int32 × Row := ssend kd pc wn sec Fb (r 15) E (r (17 + i)) G 0 0 r
def ff (p : Nat → Option Nat) (b : Nat) : Nat → Nat → Option Nat
  | 0, _ => none
  | n + 1, i => match p i with
    | some t => some (i * b + t)
    | none => ff p b n (i + 1)
def lf (p : Nat → Bool) : Nat → Nat → Option Nat
  | 0, _ => none
  | n + 1, j => if p j = true then some j else lf p n (j + 1)
theorem lf_shift (p : Nat → Bool) (o : Nat) : ∀ (n j : Nat), lf p n (o + j) = (lf (fun t => p (o + t)) n j).map (o + ·) := by
  intro n
  induction n with
  | zero => intro j; rfl
  | succ n ih =>
    intro j
    rw [lf, lf]
    by_cases h : p (o + j) = true
    · rw [if_pos h, if_pos h]; rfl
    · rw [if_neg h, if_neg h, Nat.add_assoc, ih]
theorem lf_add (p : Nat → Bool) (c : Nat) : ∀ (b j : Nat), lf p (b + c) j = match lf p b j with | some t => some t | none => lf p c (j + b) := by
  intro b
  induction b with
  | zero => intro j; rw [Nat.zero_add, lf]; rfl
  | succ b ih =>
    intro j
    rw [show b + 1 + c = (b + c) + 1 from by omega, lf, lf]
    by_cases h : p j = true
    · rw [if_pos h, if_pos h]
    · rw [if_neg h, if_neg h, ih, show j + 1 + b = j + (b + 1) from by omega]
theorem lf_block (p : Nat → Bool) (b : Nat) : ∀ (a i : Nat), lf p (a * b) (i * b) = ff (fun i => lf (fun t => p (i * b + t)) b 0) b a i := by
  intro a
  induction a with
  | zero => intro i; rw [Nat.zero_mul]; rfl
  | succ a ih =>
    intro i
    rw [show (a + 1) * b = b + a * b from by rw [Nat.succ_mul, Nat.add_comm], lf_add, ff]
    have e := lf_shift p (i * b) b 0
    rw [Nat.add_zero] at e
    rw [e]
    cases lf (fun t => p (i * b + t)) b 0 with
    | some t => rfl
    | none =>
      show lf p (a * b) (i * b + b) = _
      rw [show i * b + b = (i + 1) * b from by rw [Nat.succ_mul], ih]
theorem lf_cg {p q : Nat → Bool} : ∀ (n j : Nat), (∀ t, j ≤ t → t < j + n → p t = q t) → lf p n j = lf q n j := by
  intro n
  induction n with
  | zero => intro j _; rfl
  | succ n ih =>
    intro j h
    rw [lf, lf, h j (by omega) (by omega), ih (j + 1) (fun t h1 h2 => h t (by omega) (by omega))]
theorem ff_cg {p q : Nat → Option Nat} {b : Nat} : ∀ (n i : Nat), (∀ t, i ≤ t → t < i + n → p t = q t) → ff p b n i = ff q b n i := by
  intro n
  induction n with
  | zero => intro j _; rfl
  | succ n ih =>
    intro j h
    rw [ff, ff, h j (by omega) (by omega), ih (j + 1) (fun t h1 h2 => h t (by omega) (by omega))]
theorem ff_none {p : Nat → Option Nat} {b : Nat} : ∀ (n i : Nat), ff p b n i = none → ∀ t, i ≤ t → t < i + n → p t = none := by
  intro n
  induction n with
  | zero => intro j _ t h1 h2; omega
  | succ n ih =>
    intro j h t h1 h2
    rw [ff] at h
    cases hp : p j with
    | some v => rw [hp] at h; cases h
    | none =>
      rw [hp] at h
      by_cases e : t = j
      · rw [e]; exact hp
      · exact ih (j + 1) h t (by omega) (by omega)
theorem ff_none' {p : Nat → Option Nat} {b : Nat} : ∀ (n i : Nat), (∀ t, i ≤ t → t < i + n → p t = none) → ff p b n i = none := by
  intro n
  induction n with
  | zero => intro j _; rfl
  | succ n ih =>
    intro j h
    rw [ff, h j (by omega) (by omega)]
    exact ih (j + 1) (fun t h1 h2 => h t (by omega) (by omega))
section
variable (kd pc wn sec : Row) (G Fb : Nat) (E : Int32) (K : Nat)
noncomputable def cu : Nat → Row → Int32 → Option Nat
  | 0, _, m => if m = 0 then some 0 else none
  | n + 1, r, m => ff (fun i => cu n (sg kd pc wn sec G Fb E r i).2 (m &&& ((sg kd pc wn sec G Fb E r i).1 ^^^ -1))) (K ^ n) K 0
noncomputable def pm : Nat → Row → Int32 → Nat → Bool
  | 0, _, m, _ => decide (m = 0)
  | n + 1, r, m, j => pm n (sg kd pc wn sec G Fb E r (j / K ^ n)).2 (m &&& ((sg kd pc wn sec G Fb E r (j / K ^ n)).1 ^^^ -1)) (j % K ^ n)
def vn (r : Row) (i : Nat) (m : Int32) : Prop := m &&& ((sg kd pc wn sec G Fb E r i).1 ^^^ -1) = m ∧ ∀ g, g < G → (sg kd pc wn sec G Fb E r i).2 (30 + g) = r (30 + g) ∧ (sg kd pc wn sec G Fb E r i).2 (34 + g) = r (34 + g)
noncomputable def cp : Nat → Row → Int32 → Option Nat
  | 0, _, m => if m = 0 then some 0 else none
  | n + 1, r, m => ff (fun i => @ite _ (vn kd pc wn sec G Fb E r i m) (Classical.propDecidable _) none (cp n (sg kd pc wn sec G Fb E r i).2 (m &&& ((sg kd pc wn sec G Fb E r i).1 ^^^ -1)))) (K ^ n) K 0
end
theorem cu_lf {kd pc wn sec : Row} {G Fb : Nat} {E : Int32} {K : Nat} : ∀ (n : Nat) (r : Row) (m : Int32), cu kd pc wn sec G Fb E K n r m = lf (pm kd pc wn sec G Fb E K n r m) (K ^ n) 0 := by
  intro n
  induction n with
  | zero =>
    intro r m
    rw [cu, Nat.pow_zero, lf, lf, pm]
    by_cases h : m = 0
    · rw [if_pos h, decide_eq_true h, if_pos rfl]
    · rw [if_neg h, decide_eq_false h, if_neg (by decide)]
  | succ n ih =>
    intro r m
    have e := lf_block (pm kd pc wn sec G Fb E K (n + 1) r m) (K ^ n) K 0
    rw [Nat.zero_mul, ← Nat.pow_succ'] at e
    rw [cu, e]
    refine ff_cg K 0 (fun i _ hi => ?_)
    rw [ih]
    refine lf_cg _ _ (fun t _ ht => ?_)
    have hpos : 0 < K ^ n := by omega
    rw [pm, show (i * K ^ n + t) / K ^ n = i from by rw [Nat.mul_comm, Nat.mul_add_div hpos, Nat.div_eq_of_lt (by omega), Nat.add_zero], show (i * K ^ n + t) % K ^ n = t from by rw [Nat.mul_comm, Nat.mul_add_mod, Nat.mod_eq_of_lt (by omega)]]
theorem andn16 : ∀ z, z < 16 → ∀ t, t < 16 → ∃ k, k < 16 ∧ nI z &&& (nI t ^^^ -1) = nI k := by decide +kernel
theorem sg_facts {kd pc wn fk fr sec : Row} {G Fb : Nat} {E : Int32} (hp : PI G Fb kd pc wn fk fr sec) {r : Row} (hR : RI G Fb r) (hW : WC G r) (i : Nat) : RI G Fb (sg kd pc wn sec G Fb E r i).2 ∧ WC G (sg kd pc wn sec G Fb E r i).2 ∧ inN (sg kd pc wn sec G Fb E r i).1 16 ∧ ∀ j, j < 26 → (sg kd pc wn sec G Fb E r i).2 j = r j := by
  have h1 := RI_send (place := r 15) (reach := E) (code := r (17 + i)) hp G 0 0 r (by omega) hR hW
  exact ⟨h1.1, h1.2, ssend_set hp G 0 0 r (by omega) ⟨0, by omega, rfl⟩, fun j hj => ssend_low _ _ _ _ hj⟩
theorem miss_in {m t : Int32} (hm : inN m 16) (ht : inN t 16) : inN (m &&& (t ^^^ -1)) 16 := by
  obtain ⟨z, hz, rfl⟩ := hm
  obtain ⟨q, hq, rfl⟩ := ht
  exact andn16 z hz q hq
/-- rows that are alike at the gates that are missing -/
def Sm (m : Int32) (r r' : Row) : Prop := (∀ i, i < 26 → r i = r' i) ∧ ∀ g, g < 4 → bt m g = true → gl g r r'
theorem sg_sim {kd pc wn fk fr sec : Row} {G Fb : Nat} {E : Int32} (hp : PI G Fb kd pc wn fk fr sec) {r r' : Row} (hR : RI G Fb r) (hW : WC G r) (hR' : RI G Fb r') (hW' : WC G r') {m : Int32} (hm : inN m 16) (hS : Sm m r r') {i : Nat} (hi : i < 8) : m &&& ((sg kd pc wn sec G Fb E r i).1 ^^^ -1) = m &&& ((sg kd pc wn sec G Fb E r' i).1 ^^^ -1) ∧ Sm (m &&& ((sg kd pc wn sec G Fb E r i).1 ^^^ -1)) (sg kd pc wn sec G Fb E r i).2 (sg kd pc wn sec G Fb E r' i).2 := by
  have hF := hp.2.1
  have f1 := sg_facts (E := E) hp hR hW i
  have f2 := sg_facts (E := E) hp hR' hW' i
  have key : ∀ g, g < 4 → bt m g = true → bt (sg kd pc wn sec G Fb E r i).1 g = bt (sg kd pc wn sec G Fb E r' i).1 g ∧ gl g (sg kd pc wn sec G Fb E r i).2 (sg kd pc wn sec G Fb E r' i).2 := by
    intro g hg hb
    have hgl := hS.2 g hg hb
    have a := ssend_gate (place := r 15) (reach := E) (code := r (17 + i)) hp G 0 0 r (by omega) hR hW g hg
    have b := ssend_gate (place := r' 15) (reach := E) (code := r' (17 + i)) hp G 0 0 r' (by omega) hR' hW' g hg
    rw [← hS.1 15 (by omega), ← hS.1 (17 + i) (by omega), ← hS.1 25 (by omega)] at b
    have hl := shears_loc (kd := kd) (wn := wn) (sec := sec) (code := r (17 + i)) hF hgl
    rw [← hl.1] at b
    unfold sg
    rw [← hS.1 15 (by omega), ← hS.1 (17 + i) (by omega)]
    refine ⟨a.1.trans b.1.symm, gl_trans a.2 (gl_trans ?_ (gl_symm b.2))⟩
    split
    · exact hl.2
    · exact hgl
  have he : m &&& ((sg kd pc wn sec G Fb E r i).1 ^^^ -1) = m &&& ((sg kd pc wn sec G Fb E r' i).1 ^^^ -1) := by
    refine bt_ext (fun g hg => ?_)
    rw [bt_and, bt_and, bt_not _ hg, bt_not _ hg]
    by_cases hb : bt m g = true
    · by_cases h4 : g < 4
      · rw [(key g h4 hb).1]
      · obtain ⟨z, hz, rfl⟩ := hm
        rw [bt_hi z hz g hg (by omega)] at hb
        cases hb
    · rw [Bool.not_eq_true] at hb
      rw [hb, Bool.false_and, Bool.false_and]
  refine ⟨he, fun j hj => by rw [f1.2.2.2 j hj, f2.2.2.2 j hj, hS.1 j hj], fun g hg hb => ?_⟩
  rw [bt_and, Bool.and_eq_true] at hb
  exact (key g hg hb.1).2
theorem cu_sim {kd pc wn fk fr sec : Row} {G Fb : Nat} {E : Int32} {K : Nat} (hK : K ≤ 8) (hp : PI G Fb kd pc wn fk fr sec) : ∀ (n : Nat) (r r' : Row) (m : Int32), RI G Fb r → WC G r → RI G Fb r' → WC G r' → inN m 16 → Sm m r r' → cu kd pc wn sec G Fb E K n r m = cu kd pc wn sec G Fb E K n r' m := by
  intro n
  induction n with
  | zero => intro r r' m _ _ _ _ _ _; rfl
  | succ n ih =>
    intro r r' m hR hW hR' hW' hm hS
    rw [cu, cu]
    refine ff_cg K 0 (fun i _ hi => ?_)
    have s := sg_sim (E := E) hp hR hW hR' hW' hm hS (i := i) (by omega)
    have f1 := sg_facts (E := E) hp hR hW i
    have f2 := sg_facts (E := E) hp hR' hW' i
    rw [← s.1]
    exact ih _ _ _ f1.1 f1.2.1 f2.1 f2.2.1 (miss_in hm f1.2.2.1) s.2
theorem vn_sim {kd pc wn fk fr sec : Row} {G Fb : Nat} {E : Int32} (hp : PI G Fb kd pc wn fk fr sec) {r : Row} (hR : RI G Fb r) (hW : WC G r) {m : Int32} {i : Nat} (hv : vn kd pc wn sec G Fb E r i m) : Sm m (sg kd pc wn sec G Fb E r i).2 r := by
  have f1 := sg_facts (E := E) hp hR hW i
  refine ⟨f1.2.2.2, fun g hg hb => ?_⟩
  have a := ssend_gate (place := r 15) (reach := E) (code := r (17 + i)) hp G 0 0 r (by omega) hR hW g hg
  have hbit : bt (sg kd pc wn sec G Fb E r i).1 g = false := by
    have e := congrArg (fun x => bt x g) hv.1
    rw [bt_and, bt_not _ (by omega), hb, Bool.true_and] at e
    cases h : bt (sg kd pc wn sec G Fb E r i).1 g with
    | false => rfl
    | true => rw [h] at e; cases e
  by_cases hq : 0 ≤ g ∧ g < G ∧ ¬ (r 25 >>> (nI g &&& 31)) &&& 1 = 1 ∧ sfar (r 15) (pc g) ≤ E
  · rw [if_pos hq] at a
    have h0 : (shears kd wn sec Fb r g (r (17 + i))).1 = 0 := by
      have e := a.1
      unfold sg at hbit
      rw [hbit, bt_0, Bool.false_or] at e
      have := of_decide_eq_false e.symm
      by_cases hz : (shears kd wn sec Fb r g (r (17 + i))).1 = 0
      · exact hz
      · exact absurd ⟨hq, hz⟩ this
    have w := hv.2 g hq.2.1
    unfold sg at w
    exact gl_trans a.2 (shears_no hg h0 (a.2.2.1.symm.trans w.1) (a.2.2.2.1.symm.trans w.2))
  · rw [if_neg hq] at a
    exact a.2
theorem cp_cu {kd pc wn fk fr sec : Row} {G Fb : Nat} {E : Int32} {K : Nat} (hK : K ≤ 8) (hp : PI G Fb kd pc wn fk fr sec) : ∀ (n : Nat) (r : Row) (m : Int32), RI G Fb r → WC G r → inN m 16 → (∀ n', n' < n → cu kd pc wn sec G Fb E K n' r m = none) → cp kd pc wn sec G Fb E K n r m = cu kd pc wn sec G Fb E K n r m := by
  intro n
  induction n with
  | zero => intro r m _ _ _ _; rfl
  | succ n ih =>
    intro r m hR hW hm hn
    rw [cp, cu]
    refine ff_cg K 0 (fun i _ hi => ?_)
    have f1 := sg_facts (E := E) hp hR hW i
    by_cases hv : vn kd pc wn sec G Fb E r i m
    · rw [if_pos hv, hv.1, cu_sim hK hp n _ r m f1.1 f1.2.1 hR hW hm (vn_sim hp hR hW hv), hn n (by omega)]
    · rw [if_neg hv]
      refine ih _ _ f1.1 f1.2.1 (miss_in hm f1.2.2.1) (fun n' hn' => ?_)
      have e := hn (n' + 1) (by omega)
      rw [cu] at e
      exact ff_none K 0 e i (by omega) hi
theorem ff_lt {p : Nat → Option Nat} {b : Nat} : ∀ (n i v : Nat), (∀ t q, p t = some q → q < b) → ff p b n i = some v → ∃ j q, i ≤ j ∧ j < i + n ∧ p j = some q ∧ q < b ∧ v = j * b + q := by
  intro n
  induction n with
  | zero => intro i v _ h; cases h
  | succ n ih =>
    intro i v hb h
    rw [ff] at h
    cases hp : p i with
    | some q =>
      rw [hp] at h
      injection h with h
      exact ⟨i, q, by omega, by omega, hp, hb i q hp, h.symm⟩
    | none =>
      rw [hp] at h
      obtain ⟨j, q, h1, h2, h3⟩ := ih (i + 1) v hb h
      exact ⟨j, q, by omega, by omega, h3⟩
theorem cp_lt {kd pc wn sec : Row} {G Fb : Nat} {E : Int32} {K : Nat} : ∀ (n : Nat) (r : Row) (m : Int32) (t : Nat), cp kd pc wn sec G Fb E K n r m = some t → t < K ^ n := by
  intro n
  induction n with
  | zero =>
    intro r m t h
    rw [cp] at h
    split at h
    · injection h with h; rw [Nat.pow_zero]; omega
    · cases h
  | succ n ih =>
    intro r m t h
    rw [cp] at h
    obtain ⟨j, q, h1, h2, h3, h4, h5⟩ := ff_lt (b := K ^ n) K 0 t (fun i q hq => by
      split at hq
      · cases hq
      · exact ih _ _ _ hq) h
    have : (j + 1) * K ^ n ≤ K * K ^ n := Nat.mul_le_mul_right _ (by omega)
    rw [Nat.succ_mul] at this
    rw [Nat.pow_succ', h5]
    omega
