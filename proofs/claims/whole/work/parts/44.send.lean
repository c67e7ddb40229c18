theorem jrem_nI {a b : Nat} (ha : a < 2 ^ 31) (hb : 0 < b) (hb2 : b < 2 ^ 31) : jrem (nI a) (nI b) = nI (a % b) := pk_rem ha hb hb2
theorem jrem_10000 {a : Nat} (ha : a < 2 ^ 31) : jrem (nI a) 10000 = nI (a % 10000) := jrem_nI (b := 10000) ha (by omega) (by omega)
def okv (G Fb i : Nat) (v : Int32) : Prop :=
  (∀ g, g < 4 → i = 26 + g → inN v 10000) ∧ (∀ g, g < min 4 G → i = 30 + g → v = -1 ∨ inN v Fb) ∧ (i = 16 → inN v 9) ∧ (i = 25 → inN v 16) ∧ (∀ f, f < Fb → i = f → inN v 10) ∧ (i = 15 → inN v 10) ∧
  (∀ f, f < Fb → i = 5 + f → inN v 10000) ∧ (∀ f, f < Fb → i = 10 + f → inN v 61) ∧ (∀ g, g < 4 → ∀ f, f < Fb → i = 38 + 5 * g + f → inN v 10000) ∧ True
theorem RI_upd {G : Nat} {Fb : Nat} {r : Row} {i : Nat} {v : Int32} (h : RI G Fb r) (ho : okv G Fb i v) : RI G Fb (upd r i v) := by
  obtain ⟨a1, a2, a3, a4, a5, a6, a7, a8, a9, a10⟩ := h
  obtain ⟨b1, b2, b3, b4, b5, b6, b7, b8, b9, b10⟩ := ho
  have key : ∀ {P : Int32 → Prop} (j : Nat), P (r j) → (i = j → P v) → P (upd r i v j) := by
    intro P j h1 h2
    by_cases e : j = i
    · subst e; rw [upd_at]; exact h2 rfl
    · rw [upd_ne e]; exact h1
  exact ⟨fun g hg => key (P := fun x => inN x 10000) _ (a1 g hg) (b1 g hg), fun g hg => key (P := fun x => x = -1 ∨ inN x Fb) _ (a2 g hg) (b2 g hg), key (P := fun x => inN x 9) _ a3 b3, key (P := fun x => inN x 16) _ a4 b4, fun f hf => key (P := fun x => inN x 10) _ (a5 f hf) (b5 f hf), key (P := fun x => inN x 10) _ a6 b6, fun f hf => key (P := fun x => inN x 10000) _ (a7 f hf) (b7 f hf), fun f hf => key (P := fun x => inN x 61) _ (a8 f hf) (b8 f hf), fun g hg f hf => key (P := fun x => inN x 10000) _ (a9 g hg f hf) (b9 g hg f hf), trivial⟩
theorem RI_26 {G : Nat} {Fb g : Nat} {r : Row} {v : Int32} (hF : Fb ≤ 5) (h : RI G Fb r) (hg : g < 4) (hv : inN v 10000) : RI G Fb (upd r (26 + g) v) :=
  RI_upd h ⟨fun _ _ _ => hv, fun _ _ _ => by omega, fun _ => by omega, fun _ => by omega, fun _ _ _ => by omega, fun _ => by omega, fun _ _ _ => by omega, fun _ _ _ => by omega, fun _ _ _ _ _ => by omega, trivial⟩
theorem RI_30 {G : Nat} {Fb g : Nat} {r : Row} {v : Int32} (hF : Fb ≤ 5) (h : RI G Fb r) (hg : g < 4) (hv : v = -1 ∨ inN v Fb) : RI G Fb (upd r (30 + g) v) :=
  RI_upd h ⟨fun _ _ _ => by omega, fun _ _ _ => hv, fun _ => by omega, fun _ => by omega, fun _ _ _ => by omega, fun _ => by omega, fun _ _ _ => by omega, fun _ _ _ => by omega, fun _ _ _ _ _ => by omega, trivial⟩
theorem RI_34 {G : Nat} {Fb g : Nat} {r : Row} {v : Int32} (hF : Fb ≤ 5) (h : RI G Fb r) (hg : g < 4) : RI G Fb (upd r (34 + g) v) :=
  RI_upd h ⟨fun _ _ _ => by omega, fun _ _ _ => by omega, fun _ => by omega, fun _ => by omega, fun _ _ _ => by omega, fun _ => by omega, fun _ _ _ => by omega, fun _ _ _ => by omega, fun _ _ _ _ _ => by omega, trivial⟩
theorem RI_38 {G : Nat} {Fb g f : Nat} {r : Row} {v : Int32} (hF : Fb ≤ 5) (h : RI G Fb r) (hg : g < 4) (hf : f < 5) (hv : inN v 10000) : RI G Fb (upd r (38 + 5 * g + f) v) :=
  RI_upd h ⟨fun _ _ _ => by omega, fun _ _ _ => by omega, fun _ => by omega, fun _ => by omega, fun _ _ _ => by omega, fun _ => by omega, fun _ _ _ => by omega, fun _ _ _ => by omega, fun _ _ _ _ _ => hv, trivial⟩
theorem RI_0 {G : Nat} {Fb f : Nat} {r : Row} {v : Int32} (hF : Fb ≤ 5) (h : RI G Fb r) (hf : f < 5) (hv : inN v 10) : RI G Fb (upd r f v) :=
  RI_upd h ⟨fun _ _ _ => by omega, fun _ _ _ => by omega, fun _ => by omega, fun _ => by omega, fun _ _ _ => hv, fun _ => by omega, fun _ _ _ => by omega, fun _ _ _ => by omega, fun _ _ _ _ _ => by omega, trivial⟩
theorem RI_5 {G : Nat} {Fb f : Nat} {r : Row} {v : Int32} (hF : Fb ≤ 5) (h : RI G Fb r) (hf : f < 5) (hv : inN v 10000) : RI G Fb (upd r (5 + f) v) :=
  RI_upd h ⟨fun _ _ _ => by omega, fun _ _ _ => by omega, fun _ => by omega, fun _ => by omega, fun _ _ _ => by omega, fun _ => by omega, fun _ _ _ => hv, fun _ _ _ => by omega, fun _ _ _ _ _ => by omega, trivial⟩
theorem RI_10 {G : Nat} {Fb f : Nat} {r : Row} {v : Int32} (hF : Fb ≤ 5) (h : RI G Fb r) (hf : f < 5) (hv : inN v 61) : RI G Fb (upd r (10 + f) v) :=
  RI_upd h ⟨fun _ _ _ => by omega, fun _ _ _ => by omega, fun _ => by omega, fun _ => by omega, fun _ _ _ => by omega, fun _ => by omega, fun _ _ _ => by omega, fun _ _ _ => hv, fun _ _ _ _ _ => by omega, trivial⟩
theorem RI_15 {G : Nat} {Fb : Nat} {r : Row} {v : Int32} (hF : Fb ≤ 5) (h : RI G Fb r) (hv : inN v 10) : RI G Fb (upd r 15 v) :=
  RI_upd h ⟨fun _ _ _ => by omega, fun _ _ _ => by omega, fun _ => by omega, fun _ => by omega, fun _ _ _ => by omega, fun _ => hv, fun _ _ _ => by omega, fun _ _ _ => by omega, fun _ _ _ _ _ => by omega, trivial⟩
theorem RI_16 {G : Nat} {Fb : Nat} {r : Row} {v : Int32} (hF : Fb ≤ 5) (h : RI G Fb r) (hv : inN v 9) : RI G Fb (upd r 16 v) :=
  RI_upd h ⟨fun _ _ _ => by omega, fun _ _ _ => by omega, fun _ => hv, fun _ => by omega, fun _ _ _ => by omega, fun _ => by omega, fun _ _ _ => by omega, fun _ _ _ => by omega, fun _ _ _ _ _ => by omega, trivial⟩
theorem RI_17 {G : Nat} {Fb i : Nat} {r : Row} {v : Int32} (hF : Fb ≤ 5) (h : RI G Fb r) (hi : i < 8) : RI G Fb (upd r (17 + i) v) :=
  RI_upd h ⟨fun _ _ _ => by omega, fun _ _ _ => by omega, fun _ => by omega, fun _ => by omega, fun _ _ _ => by omega, fun _ => by omega, fun _ _ _ => by omega, fun _ _ _ => by omega, fun _ _ _ _ _ => by omega, trivial⟩
theorem RI_25 {G : Nat} {Fb : Nat} {r : Row} {v : Int32} (hF : Fb ≤ 5) (h : RI G Fb r) (hv : inN v 16) : RI G Fb (upd r 25 v) :=
  RI_upd h ⟨fun _ _ _ => by omega, fun _ _ _ => by omega, fun _ => by omega, fun _ => hv, fun _ _ _ => by omega, fun _ => by omega, fun _ _ _ => by omega, fun _ _ _ => by omega, fun _ _ _ _ _ => by omega, trivial⟩
theorem RI_58 {G : Nat} {Fb : Nat} {r : Row} {v : Int32} (hF : Fb ≤ 5) (h : RI G Fb r) : RI G Fb (upd r 58 v) :=
  RI_upd h ⟨fun _ _ _ => by omega, fun _ _ _ => by omega, fun _ => by omega, fun _ => by omega, fun _ _ _ => by omega, fun _ => by omega, fun _ _ _ => by omega, fun _ _ _ => by omega, fun _ _ _ _ _ => by omega, trivial⟩
theorem RI_open {G : Nat} {Fb g f : Nat} {r : Row} {c : Int32} (hF : Fb ≤ 5) (h : RI G Fb r) (hg : g < 4) (hf : f < 5) (hc : inN c 10000) : RI G Fb (sopen r g f c) := by
  unfold sopen
  refine RI_34 hF (RI_30 hF (RI_26 hF (RI_38 hF h hg hf hc) hg ?_) hg (Or.inl rfl)) hg
  obtain ⟨k, hk, he⟩ := h.1 g hg
  rw [he]
  by_cases h9 : nI k < 9999
  · rw [if_pos h9, ix1]
    have : k < 9999 := (nI_lt_iff (by omega) (by omega)).mp h9
    exact ⟨k + 1, by omega, rfl⟩
  · rw [if_neg h9]; exact ⟨k, hk, rfl⟩
theorem jrem_in {a : Int32} {n : Nat} (h : inN a n) (hn : n < 2 ^ 31) : inN (jrem a 10000) 10000 := by
  obtain ⟨k, hk, rfl⟩ := h
  rw [jrem_10000 (by omega)]
  exact ⟨_, Nat.mod_lt _ (by omega), rfl⟩
theorem add_in {a b : Int32} {n m : Nat} (h : inN a n) (h2 : inN b m) : inN (a + b) (n + m) := by
  obtain ⟨k, hk, rfl⟩ := h
  obtain ⟨j, hj, rfl⟩ := h2
  exact ⟨k + j, by omega, nI_add k j⟩
/-- the counts that a gate waits for are counts, where it waits -/
def WC (G : Nat) (r : Row) : Prop := ∀ g, g < min 4 G → r (30 + g) = -1 ∨ inN (r (34 + g)) 10000
theorem WC_upd {G : Nat} {r : Row} {i : Nat} {v : Int32} (h : WC G r) (hi : i < 30 ∨ 38 ≤ i) : WC G (upd r i v) := by
  intro g hg
  rw [upd_ne (by omega), upd_ne (by omega)]
  exact h g hg
theorem WC_open {G : Nat} {r : Row} {g f : Nat} {c : Int32} (h : WC G r) (hg : g < 4) : WC G (sopen r g f c) := by
  intro g' hg'
  unfold sopen
  by_cases e : g' = g
  · subst e
    left
    rw [upd_ne (by omega), upd_at]
  · rw [upd_ne (by omega), upd_ne (by omega), upd_ne (by omega), upd_ne (by omega), upd_ne (by omega), upd_ne (by omega), upd_ne (by omega), upd_ne (by omega)]
    exact h g' hg'
theorem RI_hears {Fb G g : Nat} {kd pc wn fk fr sec r : Row} {code : Int32} (hp : PI G Fb kd pc wn fk fr sec) (h : RI G Fb r) (hw : WC G r) (hg : g < G) : RI G Fb (shears kd wn sec Fb r g code).2 ∧ WC G (shears kd wn sec Fb r g code).2 ∧ ((shears kd wn sec Fb r g code).1 = 0 ∨ (shears kd wn sec Fb r g code).1 = 1) := by
  obtain ⟨hG, hF, hgs, hfs⟩ := hp
  unfold shears
  by_cases h1 : ¬ r (30 + g) = -1 ∧ cd (sec (r (30 + g)).toNatClampNeg) (r (34 + g)) = code
  · rw [if_pos h1]
    obtain ⟨e1, e2⟩ := ((h.2.1 g (by omega)).resolve_left h1.1).nI (by omega)
    exact ⟨RI_open hF h (by omega) (by omega) ((hw g (by omega)).resolve_left h1.1), WC_open hw (by omega), Or.inr rfl⟩
  · rw [if_neg h1]
    cases hs : sfind kd wn sec r g code Fb 0 with
    | none => exact ⟨h, hw, Or.inl rfl⟩
    | some f =>
      obtain ⟨hf, hne⟩ := sfind_lt _ _ _ hs
      have hm := (mt_val (kd := kd) (sec := sec) (r := r) (f := f) (code := code) (hgs g hg).2.2.1).resolve_left hne
      have hc := jrem_in (add_in (h.2.2.2.2.2.2.2.2.1 g (by omega) f (by omega)) hm) (by omega)
      have hc2 := jrem_in (add_in hc (⟨1, by omega, rfl⟩ : inN 1 2)) (by omega)
      show RI G Fb (if kd g = 3 ∧ ¬ mt kd wn sec r g f code ≤ 4 then _ else _ : Int32 × Row).2 ∧ WC G (if kd g = 3 ∧ ¬ mt kd wn sec r g f code ≤ 4 then _ else _ : Int32 × Row).2 ∧ ((if kd g = 3 ∧ ¬ mt kd wn sec r g f code ≤ 4 then _ else _ : Int32 × Row).1 = 0 ∨ (if kd g = 3 ∧ ¬ mt kd wn sec r g f code ≤ 4 then _ else _ : Int32 × Row).1 = 1)
      by_cases h3 : kd g = 3 ∧ ¬ mt kd wn sec r g f code ≤ 4
      · rw [if_pos h3]
        refine ⟨RI_34 hF (RI_30 hF h (by omega) (Or.inr ⟨f, by omega, rfl⟩)) (by omega), ?_, Or.inl rfl⟩
        intro g' hg'
        dsimp only
        by_cases e : g' = g
        · subst e
          right
          rw [upd_at]
          exact hc2
        · rw [upd_ne (by omega), upd_ne (by omega), upd_ne (by omega), upd_ne (by omega)]
          exact hw g' hg'
      · rw [if_neg h3]
        exact ⟨RI_open hF h (by omega) (by omega) hc, WC_open hw (by omega), Or.inr rfl⟩
