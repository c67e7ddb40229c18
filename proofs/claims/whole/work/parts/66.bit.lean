/-! bits of a set of gates; one gate's cells -/
def bt (m : Int32) (g : Nat) : Bool := m.toBitVec.getLsbD g
theorem bt_and (a b : Int32) (g : Nat) : bt (a &&& b) g = (bt a g && bt b g) := by simp [bt]
theorem bt_or (a b : Int32) (g : Nat) : bt (a ||| b) g = (bt a g || bt b g) := by simp [bt]
theorem bt_not (a : Int32) {g : Nat} (hg : g < 32) : bt (a ^^^ -1) g = !bt a g := by
  unfold bt
  rw [Int32.toBitVec_xor, BitVec.getLsbD_xor, show (-1 : Int32).toBitVec = BitVec.allOnes 32 from rfl, BitVec.getLsbD_allOnes]
  simp [hg]
theorem bt_ext {a b : Int32} (h : ∀ g, g < 32 → bt a g = bt b g) : a = b := Int32.toBitVec_inj.mp (BitVec.eq_of_getLsbD_eq h)
theorem bt_bit : ∀ g, g < 4 → ∀ g', g' < 4 → bt (1 <<< (nI g &&& 31)) g' = decide (g = g') := by decide
theorem bt_hi : ∀ z, z < 16 → ∀ g, g < 32 → 4 ≤ g → bt (nI z) g = false := by decide +kernel
theorem bt_0 (g : Nat) : bt 0 g = false := by simp [bt]
def gl (g : Nat) (r r' : Row) : Prop := r (26 + g) = r' (26 + g) ∧ r (30 + g) = r' (30 + g) ∧ r (34 + g) = r' (34 + g) ∧ ∀ f, f < 5 → r (38 + 5 * g + f) = r' (38 + 5 * g + f)
theorem gl_refl (g : Nat) (r : Row) : gl g r r := ⟨rfl, rfl, rfl, fun _ _ => rfl⟩
theorem gl_trans {g : Nat} {a b c : Row} (h : gl g a b) (h2 : gl g b c) : gl g a c := ⟨h.1.trans h2.1, h.2.1.trans h2.2.1, h.2.2.1.trans h2.2.2.1, fun f hf => (h.2.2.2 f hf).trans (h2.2.2.2 f hf)⟩
theorem gl_symm {g : Nat} {a b : Row} (h : gl g a b) : gl g b a := ⟨h.1.symm, h.2.1.symm, h.2.2.1.symm, fun f hf => (h.2.2.2 f hf).symm⟩
theorem upd_cg {r r' : Row} {i j : Nat} {v : Int32} (h : r j = r' j) : upd r i v j = upd r' i v j := by
  by_cases e : j = i
  · rw [e, upd_at, upd_at]
  · rw [upd_ne e, upd_ne e, h]
theorem sopen_cg {r r' : Row} {g f j : Nat} {c : Int32} (h : r j = r' j) (h26 : r (26 + g) = r' (26 + g)) : sopen r g f c j = sopen r' g f c j := by
  unfold sopen
  rw [h26]
  exact upd_cg (upd_cg (upd_cg (upd_cg h)))
theorem mt_loc {kd wn sec r r' : Row} {g f : Nat} {code : Int32} (hf : f < 5) (h : gl g r r') : mt kd wn sec r g f code = mt kd wn sec r' g f code := by
  unfold mt
  rw [h.2.2.2 f hf]
theorem sfind_loc {kd wn sec r r' : Row} {g : Nat} {code : Int32} (h : gl g r r') : ∀ (n f : Nat), f + n ≤ 5 → sfind kd wn sec r g code n f = sfind kd wn sec r' g code n f := by
  intro n
  induction n with
  | zero => intro f _; rfl
  | succ n ih =>
    intro f hf
    unfold sfind
    rw [mt_loc (by omega) h, ih (f + 1) (by omega)]
theorem shears_loc {kd wn sec r r' : Row} {Fb g : Nat} {code : Int32} (hF : Fb ≤ 5) (h : gl g r r') : (shears kd wn sec Fb r g code).1 = (shears kd wn sec Fb r' g code).1 ∧ gl g (shears kd wn sec Fb r g code).2 (shears kd wn sec Fb r' g code).2 := by
  have so : ∀ (f : Nat) (c : Int32), gl g (sopen r g f c) (sopen r' g f c) := fun f c => ⟨sopen_cg h.1 h.1, sopen_cg h.2.1 h.1, sopen_cg h.2.2.1 h.1, fun f hf => sopen_cg (h.2.2.2 f hf) h.1⟩
  unfold shears
  rw [h.2.1, h.2.2.1, sfind_loc h Fb 0 (by omega)]
  by_cases h1 : ¬ r' (30 + g) = -1 ∧ cd (sec (r' (30 + g)).toNatClampNeg) (r' (34 + g)) = code
  · rw [if_pos h1, if_pos h1]
    exact ⟨rfl, so _ _⟩
  · rw [if_neg h1, if_neg h1]
    cases hs : sfind kd wn sec r' g code Fb 0 with
    | none => exact ⟨rfl, h⟩
    | some f =>
      have hf := (sfind_lt _ _ _ hs).1
      dsimp only
      rw [mt_loc (by omega) h, h.2.2.2 f (by omega)]
      by_cases h2 : kd g = 3 ∧ ¬ mt kd wn sec r' g f code ≤ 4
      · rw [if_pos h2, if_pos h2]
        exact ⟨rfl, upd_cg (upd_cg h.1), upd_cg (upd_cg h.2.1), upd_cg (upd_cg h.2.2.1), fun f hf => upd_cg (upd_cg (h.2.2.2 f hf))⟩
      · rw [if_neg h2, if_neg h2]
        exact ⟨rfl, so _ _⟩
theorem sopen_oth {r : Row} {g g' f : Nat} {c : Int32} (hg : g < 4) (hg' : g' < 4) (hne : ¬ g' = g) (hf : f < 5) : gl g' (sopen r g f c) r := by
  unfold sopen
  refine ⟨?_, ?_, ?_, fun f' hf' => ?_⟩
  · rw [upd_ne (by omega), upd_ne (by omega), upd_ne (by omega), upd_ne (by omega)]
  · rw [upd_ne (by omega), upd_ne (by omega), upd_ne (by omega), upd_ne (by omega)]
  · rw [upd_ne (by omega), upd_ne (by omega), upd_ne (by omega), upd_ne (by omega)]
  · rw [upd_ne (by omega), upd_ne (by omega), upd_ne (by omega), upd_ne (by omega)]
theorem shears_oth {G : Nat} {kd wn sec r : Row} {Fb g g' : Nat} {code : Int32} (hF : Fb ≤ 5) (hR : RI G Fb r) (hg : g < 4) (hgG : g < G) (hg' : g' < 4) (hne : ¬ g' = g) : gl g' (shears kd wn sec Fb r g code).2 r := by
  unfold shears
  by_cases h1 : ¬ r (30 + g) = -1 ∧ cd (sec (r (30 + g)).toNatClampNeg) (r (34 + g)) = code
  · rw [if_pos h1]
    have := (((hR.2.1 g (by omega)).resolve_left h1.1).nI (by omega)).2
    exact sopen_oth hg hg' hne (by omega)
  · rw [if_neg h1]
    cases hs : sfind kd wn sec r g code Fb 0 with
    | none => exact gl_refl _ _
    | some f =>
      have hf := (sfind_lt _ _ _ hs).1
      dsimp only
      by_cases h2 : kd g = 3 ∧ ¬ mt kd wn sec r g f code ≤ 4
      · rw [if_pos h2]
        refine ⟨?_, ?_, ?_, fun f' hf' => ?_⟩ <;> (dsimp only; rw [upd_ne (by omega), upd_ne (by omega)])
      · rw [if_neg h2]
        exact sopen_oth hg hg' hne (by omega)
/-- a gate that hears and doesn't open, and waits as before, is as before -/
theorem shears_no {kd wn sec r : Row} {Fb g : Nat} {code : Int32} (hg : g < 4) (h0 : (shears kd wn sec Fb r g code).1 = 0) (h30 : (shears kd wn sec Fb r g code).2 (30 + g) = r (30 + g)) (h34 : (shears kd wn sec Fb r g code).2 (34 + g) = r (34 + g)) : gl g (shears kd wn sec Fb r g code).2 r := by
  refine ⟨?_, h30, h34, fun f' hf' => ?_⟩
  all_goals
    clear h30 h34
    revert h0
    unfold shears
    by_cases h1 : ¬ r (30 + g) = -1 ∧ cd (sec (r (30 + g)).toNatClampNeg) (r (34 + g)) = code
    · rw [if_pos h1]
      intro e
      exact absurd e i10
    · rw [if_neg h1]
      cases hs : sfind kd wn sec r g code Fb 0 with
      | none => intro _; rfl
      | some f =>
        dsimp only
        by_cases h2 : kd g = 3 ∧ ¬ mt kd wn sec r g f code ≤ 4
        · rw [if_pos h2]
          intro _
          dsimp only
          rw [upd_ne (by omega), upd_ne (by omega)]
        · rw [if_neg h2]
          intro e
          exact absurd e i10
/-- what a code that is sent does at one gate -/
theorem ssend_gate {kd pc wn fk fr sec : Row} {G Fb : Nat} {place reach code : Int32} (hp : PI G Fb kd pc wn fk fr sec) : ∀ (n g0 : Nat) (s : Int32) (r : Row), g0 + n = G → RI G Fb r → WC G r → ∀ g, g < 4 →
    (bt (ssend kd pc wn sec Fb place reach code n g0 s r).1 g = (bt s g || decide ((g0 ≤ g ∧ g < G ∧ ¬ (r 25 >>> (nI g &&& 31)) &&& 1 = 1 ∧ sfar place (pc g) ≤ reach) ∧ ¬ (shears kd wn sec Fb r g code).1 = 0))) ∧
    gl g (ssend kd pc wn sec Fb place reach code n g0 s r).2 (if g0 ≤ g ∧ g < G ∧ ¬ (r 25 >>> (nI g &&& 31)) &&& 1 = 1 ∧ sfar place (pc g) ≤ reach then (shears kd wn sec Fb r g code).2 else r) := by
  have hG := hp.1
  have hF := hp.2.1
  intro n
  induction n with
  | zero =>
    intro g0 s r hg0 hR hW g hg
    rw [ssend, if_neg (by omega), decide_eq_false (by omega), Bool.or_false]
    exact ⟨rfl, gl_refl _ _⟩
  | succ n ih =>
    intro g0 s r hg0 hR hW g hg
    rw [ssend]
    by_cases hh : ¬ (r 25 >>> (nI g0 &&& 31)) &&& 1 = 1 ∧ sfar place (pc g0) ≤ reach
    · rw [if_pos hh]
      have hI := RI_hears (g := g0) (code := code) hp hR hW (by omega)
      have i1 := ih (g0 + 1) (if (shears kd wn sec Fb r g0 code).1 = 0 then s else s ||| (1 <<< (nI g0 &&& 31))) _ (by omega) hI.1 hI.2.1 g hg
      rw [shears_low (show 25 < 26 by omega)] at i1
      by_cases e : g = g0
      · subst e
        have n1 : ¬ (g + 1 ≤ g ∧ g < G ∧ ¬ (r 25 >>> (nI g &&& 31)) &&& 1 = 1 ∧ sfar place (pc g) ≤ reach) := fun a => by omega
        have y1 : g ≤ g ∧ g < G ∧ ¬ (r 25 >>> (nI g &&& 31)) &&& 1 = 1 ∧ sfar place (pc g) ≤ reach := ⟨Nat.le_refl _, by omega, hh⟩
        rw [decide_eq_false (fun a => n1 a.1), if_neg n1, Bool.or_false] at i1
        rw [if_pos y1]
        refine ⟨i1.1.trans ?_, i1.2⟩
        clear i1
        by_cases hz : (shears kd wn sec Fb r g code).1 = 0
        · rw [if_pos hz, decide_eq_false (fun a => a.2 hz), Bool.or_false]
        · rw [if_neg hz, bt_or, bt_bit g hg g hg, decide_eq_true (show g = g from rfl), decide_eq_true ⟨⟨Nat.le_refl _, by omega, hh⟩, hz⟩]
      · have ho := shears_oth (kd := kd) (wn := wn) (sec := sec) (code := code) hF hR (show g0 < 4 by omega) (show g0 < G by omega) hg e
        have hl := shears_loc (kd := kd) (wn := wn) (sec := sec) (code := code) hF ho
        rw [hl.1] at i1
        have hb : bt (if (shears kd wn sec Fb r g0 code).1 = 0 then s else s ||| (1 <<< (nI g0 &&& 31))) g = bt s g := by
          split
          · rfl
          · rw [bt_or, bt_bit g0 (by omega) g hg, decide_eq_false (fun e2 => e e2.symm), Bool.or_false]
        rw [hb] at i1
        have hc : (g0 + 1 ≤ g ∧ g < G ∧ ¬ (r 25 >>> (nI g &&& 31)) &&& 1 = 1 ∧ sfar place (pc g) ≤ reach) ↔ (g0 ≤ g ∧ g < G ∧ ¬ (r 25 >>> (nI g &&& 31)) &&& 1 = 1 ∧ sfar place (pc g) ≤ reach) := ⟨fun a => ⟨by omega, a.2⟩, fun a => ⟨by omega, a.2⟩⟩
        refine ⟨i1.1.trans ?_, gl_trans i1.2 ?_⟩
        · simp only [hc]
        · by_cases hq : g0 ≤ g ∧ g < G ∧ ¬ (r 25 >>> (nI g &&& 31)) &&& 1 = 1 ∧ sfar place (pc g) ≤ reach
          · rw [if_pos hq, if_pos (hc.mpr hq)]
            exact hl.2
          · rw [if_neg hq, if_neg (fun a => hq (hc.mp a))]
            exact ho
    · rw [if_neg hh]
      have i1 := ih (g0 + 1) s r (by omega) hR hW g hg
      by_cases e : g = g0
      · subst e
        rw [decide_eq_false (by omega), if_neg (by omega)] at i1
        rw [if_neg (fun a => hh a.2.2), decide_eq_false (fun a => hh a.1.2.2)]
        exact i1
      · have hc : (g0 + 1 ≤ g ∧ g < G ∧ ¬ (r 25 >>> (nI g &&& 31)) &&& 1 = 1 ∧ sfar place (pc g) ≤ reach) ↔ (g0 ≤ g ∧ g < G ∧ ¬ (r 25 >>> (nI g &&& 31)) &&& 1 = 1 ∧ sfar place (pc g) ≤ reach) := ⟨fun a => ⟨by omega, a.2⟩, fun a => ⟨by omega, a.2⟩⟩
        refine ⟨i1.1.trans ?_, gl_trans i1.2 ?_⟩
        · simp only [hc]
        · by_cases hq : g0 ≤ g ∧ g < G ∧ ¬ (r 25 >>> (nI g &&& 31)) &&& 1 = 1 ∧ sfar place (pc g) ≤ reach
          · rw [if_pos hq, if_pos (hc.mpr hq)]
            exact gl_refl _ _
          · rw [if_neg hq, if_neg (fun a => hq (hc.mp a))]
            exact gl_refl _ _
