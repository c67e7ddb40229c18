/-! a scene of the class as a row -/
def ph (i : Nat) : Nat × Nat := if i < 5 then (7, i) else if i < 10 then (8, i - 5) else if i < 15 then (9, i - 10) else if i = 15 then (0, 2) else if i = 16 then (0, 4) else if i < 25 then (6, i - 17) else if i = 25 then (0, 3) else if i < 30 then (10, i - 26) else if i < 34 then (11, i - 30) else if i < 38 then (12, i - 34) else if i < 58 then (13, i - 38) else (0, 1)
def toRow (sc : Grp) : Row := fun i => if i < 59 then sc (ph i).1 (ph i).2 else 0
theorem ph_inj : ∀ i, i < 59 → ∀ j, j < 59 → ph i = ph j → i = j := by decide +kernel
theorem toRow_wr {i : Nat} (hi : i < 59) (sc : Grp) (v : Int32) : toRow (wr sc (ph i).1 (ph i).2 v) = upd (toRow sc) i v := by
  funext j
  by_cases hj : j < 59
  · by_cases h : j = i
    · subst h
      simp [toRow, hj, upd_at, wr_eq]
    · have h2 : ¬ ((ph j).1 = (ph i).1 ∧ (ph j).2 = (ph i).2) := fun e => h (ph_inj j hj i hi (Prod.ext e.1 e.2))
      rw [upd_ne h]
      simp only [toRow, if_pos hj]
      exact wr_ne h2
  · have h : ¬ j = i := by omega
    rw [upd_ne h]
    simp [toRow, hj]
theorem toRow_at {i : Nat} {a b : Nat} (hi : i < 59) (h : ph i = (a, b)) (sc : Grp) : toRow sc i = sc a b := by simp [toRow, hi, h]
theorem toRow_w {i : Nat} {a b : Nat} (hi : i < 59) (h : ph i = (a, b)) (sc : Grp) (v : Int32) : toRow (wr sc a b v) = upd (toRow sc) i v := by
  have e := toRow_wr hi sc v
  rw [h] at e
  exact e
theorem ph0 : ∀ f, f < 5 → ph f = (7, f) := by decide
theorem ph5 : ∀ f, f < 5 → ph (5 + f) = (8, f) := by decide
theorem ph10 : ∀ f, f < 5 → ph (10 + f) = (9, f) := by decide
theorem ph17 : ∀ f, f < 8 → ph (17 + f) = (6, f) := by decide
theorem ph26 : ∀ f, f < 4 → ph (26 + f) = (10, f) := by decide
theorem ph30 : ∀ f, f < 4 → ph (30 + f) = (11, f) := by decide
theorem ph34 : ∀ f, f < 4 → ph (34 + f) = (12, f) := by decide
theorem ph38 : ∀ f, f < 20 → ph (38 + f) = (13, f) := by decide
theorem tr0 {f : Nat} (h : f < 5) (sc : Grp) : toRow sc f = sc 7 f := toRow_at (by omega) (ph0 f h) sc
theorem tr5 {f : Nat} (h : f < 5) (sc : Grp) : toRow sc (5 + f) = sc 8 f := toRow_at (by omega) (ph5 f h) sc
theorem tr10 {f : Nat} (h : f < 5) (sc : Grp) : toRow sc (10 + f) = sc 9 f := toRow_at (by omega) (ph10 f h) sc
theorem tr15 (sc : Grp) : toRow sc 15 = sc 0 2 := toRow_at (by omega) rfl sc
theorem tr16 (sc : Grp) : toRow sc 16 = sc 0 4 := toRow_at (by omega) rfl sc
theorem tr17 {f : Nat} (h : f < 8) (sc : Grp) : toRow sc (17 + f) = sc 6 f := toRow_at (by omega) (ph17 f h) sc
theorem tr25 (sc : Grp) : toRow sc 25 = sc 0 3 := toRow_at (by omega) rfl sc
theorem tr26 {f : Nat} (h : f < 4) (sc : Grp) : toRow sc (26 + f) = sc 10 f := toRow_at (by omega) (ph26 f h) sc
theorem tr30 {f : Nat} (h : f < 4) (sc : Grp) : toRow sc (30 + f) = sc 11 f := toRow_at (by omega) (ph30 f h) sc
theorem tr34 {f : Nat} (h : f < 4) (sc : Grp) : toRow sc (34 + f) = sc 12 f := toRow_at (by omega) (ph34 f h) sc
theorem tr38 {g f : Nat} (h : g < 4) (h2 : f < 5) (sc : Grp) : toRow sc (38 + 5 * g + f) = sc 13 (5 * g + f) := by rw [Nat.add_assoc]; exact toRow_at (by omega) (ph38 _ (by omega)) sc
theorem tr58 (sc : Grp) : toRow sc 58 = sc 0 1 := toRow_at (by omega) rfl sc
theorem tw0 {f : Nat} (h : f < 5) (sc : Grp) (v : Int32) : toRow (wr sc 7 f v) = upd (toRow sc) f v := toRow_w (by omega) (ph0 f h) sc v
theorem tw5 {f : Nat} (h : f < 5) (sc : Grp) (v : Int32) : toRow (wr sc 8 f v) = upd (toRow sc) (5 + f) v := toRow_w (by omega) (ph5 f h) sc v
theorem tw10 {f : Nat} (h : f < 5) (sc : Grp) (v : Int32) : toRow (wr sc 9 f v) = upd (toRow sc) (10 + f) v := toRow_w (by omega) (ph10 f h) sc v
theorem tw15 (sc : Grp) (v : Int32) : toRow (wr sc 0 2 v) = upd (toRow sc) 15 v := toRow_w (i := 15) (by omega) rfl sc v
theorem tw16 (sc : Grp) (v : Int32) : toRow (wr sc 0 4 v) = upd (toRow sc) 16 v := toRow_w (i := 16) (by omega) rfl sc v
theorem tw17 {f : Nat} (h : f < 8) (sc : Grp) (v : Int32) : toRow (wr sc 6 f v) = upd (toRow sc) (17 + f) v := toRow_w (by omega) (ph17 f h) sc v
theorem tw25 (sc : Grp) (v : Int32) : toRow (wr sc 0 3 v) = upd (toRow sc) 25 v := toRow_w (i := 25) (by omega) rfl sc v
theorem tw26 {f : Nat} (h : f < 4) (sc : Grp) (v : Int32) : toRow (wr sc 10 f v) = upd (toRow sc) (26 + f) v := toRow_w (by omega) (ph26 f h) sc v
theorem tw30 {f : Nat} (h : f < 4) (sc : Grp) (v : Int32) : toRow (wr sc 11 f v) = upd (toRow sc) (30 + f) v := toRow_w (by omega) (ph30 f h) sc v
theorem tw34 {f : Nat} (h : f < 4) (sc : Grp) (v : Int32) : toRow (wr sc 12 f v) = upd (toRow sc) (34 + f) v := toRow_w (by omega) (ph34 f h) sc v
theorem tw38 {g f : Nat} (h : g < 4) (h2 : f < 5) (sc : Grp) (v : Int32) : toRow (wr sc 13 (5 * g + f) v) = upd (toRow sc) (38 + 5 * g + f) v := by rw [Nat.add_assoc]; exact toRow_w (by omega) (ph38 _ (by omega)) sc v
theorem tw58 (sc : Grp) (v : Int32) : toRow (wr sc 0 1 v) = upd (toRow sc) 58 v := toRow_w (i := 58) (by omega) rfl sc v
/-! what holds of a row -/
def inN (x : Int32) (n : Nat) : Prop := ∃ k, k < n ∧ x = nI k
/-- a row in its ranges, Fb fobs -/
def RI (G Fb : Nat) (r : Row) : Prop :=
  (∀ g, g < 4 → inN (r (26 + g)) 10000) ∧ (∀ g, g < min 4 G → r (30 + g) = -1 ∨ inN (r (30 + g)) Fb) ∧ inN (r 16) 9 ∧ inN (r 25) 16 ∧ (∀ f, f < Fb → inN (r f) 10) ∧ inN (r 15) 10 ∧
  (∀ f, f < Fb → inN (r (5 + f)) 10000) ∧ (∀ f, f < Fb → inN (r (10 + f)) 61) ∧ (∀ g, g < 4 → ∀ f, f < Fb → inN (r (38 + 5 * g + f)) 10000) ∧ True
/-- a plan's numbers in their ranges -/
def PI (G Fb : Nat) (kd pc wn fk fr sec : Row) : Prop :=
  G ≤ 4 ∧ Fb ≤ 5 ∧ (∀ g, g < G → inN (kd g) 4 ∧ inN (pc g) 10 ∧ inN (wn g) 33 ∧ ¬ wn g = 0) ∧ ∀ f, f < Fb → inN (fk f) 4 ∧ inN (fr f) 10 ∧ inN (sec f) 256
theorem inN.ne {x : Int32} {n : Nat} (h : inN x n) (hn : n < 2 ^ 31) : ¬ x = -1 := by
  obtain ⟨k, hk, rfl⟩ := h
  intro e
  have h1 := nI_toInt (n := k) (by omega)
  rw [e] at h1
  have : (-1 : Int32).toInt = -1 := rfl
  omega
theorem inN.toInt {x : Int32} {n : Nat} (h : inN x n) (hn : n < 2 ^ 31) : 0 ≤ x.toInt ∧ x.toInt < n := by
  obtain ⟨k, hk, rfl⟩ := h
  rw [nI_toInt (by omega)]
  omega
theorem inN.nI {x : Int32} {n : Nat} (h : inN x n) (hn : n < 2 ^ 31) : x = nI x.toNatClampNeg ∧ x.toNatClampNeg < n := by
  obtain ⟨k, hk, rfl⟩ := h
  rw [nI_clamp (by omega)]
  exact ⟨rfl, hk⟩
/-! hearing: the model's side -/
theorem m_match43 (mo : Grp) {g f : Nat} (hg : g < 4) (hf : f < 5) (code most : Int32) (hm : most.toInt ≤ 900) : ∀ (n : Nat) (k : Int32), most.toInt - k.toInt + 2 ≤ n → k.toInt ≤ most.toInt + 1 → 0 ≤ k.toInt → fX11_matchOf_43 mo n (nI g) (nI f) code most k = some (mtc (mo 12 f) (mo 14 (38 + 5 * g + f)) code most n k) := by
  intro n
  induction n with
  | zero => intro k h1 h2; omega
  | succ n ih =>
    intro k h1 h2 h0
    unfold fX11_matchOf_43 mtc
    by_cases h : k ≤ most
    · rw [if_pos h, if_pos h]
      simp (disch := omega) only [ix38, ab_e, nI_clamp]
      show d_bd (some (cd _ _)) _ = _
      rw [bd_e]
      by_cases h3 : cd (mo 12 f) (jrem (mo 14 (38 + 5 * g + f) + k) 10000) = code
      · rw [if_pos h3, if_pos h3]
      · rw [if_neg h3, if_neg h3, lt_e]
        have h5 := Int32.le_iff_toInt_le.mp h
        have h4 : (k + 1).toInt = k.toInt + 1 := i32_succ (b := 1001) (by rw [Int32.lt_iff_toInt_lt]; have : (1001 : Int32).toInt = 1001 := rfl; omega)
        exact ih (k + 1) (by omega) (by omega) (by omega)
    · rw [if_neg h, if_neg h]
theorem mt_args {kd wn : Row} {g : Nat} (hk : inN (wn g) 33) : (if kd g = 1 then (1 : Int32) else wn g).toInt ≤ 32 ∧ 0 ≤ (if kd g = 1 then (1 : Int32) else wn g).toInt := by
  have h := hk.toInt (by omega)
  split
  · exact ⟨by decide, by decide⟩
  · omega
theorem m_match (mo : Grp) {g f : Nat} (hg : g < 4) (hf : f < 5) (hw : inN (mo 7 g) 33) (code : Int32) : fX11_matchOf mo (nI g) (nI f) code = some (mt (mo 5) (mo 7) (mo 12) (mo 14) g f code) := by
  unfold fX11_matchOf fX11_matchOf_37 mt
  simp (disch := omega) only [ab_e, nI_clamp, lt_e]
  have hb := mt_args (kd := mo 5) hw
  have key : ∀ (k0 : Int32), (k0 = 0 ∨ k0 = 1) → fX11_matchOf_43 mo 1000 (nI g) (nI f) code (if mo 5 g = 1 then 1 else mo 7 g) k0 = some (mtc (mo 12 f) (mo 14 (38 + 5 * g + f)) code (if mo 5 g = 1 then 1 else mo 7 g) 1000 k0) := by
    intro k0 h0
    have h1 : 0 ≤ k0.toInt ∧ k0.toInt ≤ 1 := by rcases h0 with rfl | rfl <;> decide
    exact m_match43 mo hg hf code _ (by omega) 1000 k0 (by omega) (by omega) (by omega)
  have k1 := key (if mo 5 g = 2 then 0 else 1) (by split <;> simp)
  by_cases h : mo 5 g = 1
  · rw [if_pos h] at k1 ⊢
    rw [if_pos h]
    exact k1
  · rw [if_neg h] at k1 ⊢
    rw [if_neg h]
    exact k1
