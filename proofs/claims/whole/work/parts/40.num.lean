/-! numbers, and the words of the decompiled functions by simp -/
theorem nI_ad (a b : Nat) : nI a + nI b = nI (a + b) := by simp [nI, Int32.ofNat_add]
theorem nI_mul (a b : Nat) : nI a * nI b = nI (a * b) := by simp [nI, Int32.ofNat_mul]
theorem nI_inj {a b : Nat} (ha : a < 2 ^ 31) (hb : b < 2 ^ 31) : nI a = nI b ↔ a = b := by
  constructor
  · intro h
    have h1 := nI_toInt ha
    have h2 := nI_toInt hb
    rw [h] at h1
    omega
  · intro h; rw [h]
theorem nI_lt_iff {a b : Nat} (ha : a < 2 ^ 31) (hb : b < 2 ^ 31) : nI a < nI b ↔ a < b := by
  rw [Int32.lt_iff_toInt_lt, nI_toInt hb, nI_toInt ha]; omega
theorem nI_le_iff {a b : Nat} (ha : a < 2 ^ 31) (hb : b < 2 ^ 31) : nI a ≤ nI b ↔ a ≤ b := by
  rw [Int32.le_iff_toInt_le, nI_toInt hb, nI_toInt ha]; omega
theorem lt_e {α β : Type} (e : α) (k : α → Option β) : d_lt e k = k e := rfl
theorem bd_e {α β : Type} (a : α) (k : α → Option β) : d_bd (some a) k = k a := rfl
theorem ab_e {β : Type} {i n : Nat} (h : i < n) (hn : n < 2 ^ 31) (b : Option β) : d_ab (nI i) n b = b := by
  unfold d_ab
  rw [if_pos]
  exact ⟨nI_pos' (by omega), by rw [nI_clamp (by omega)]; exact h⟩
theorem ab_l {β : Type} {x : Int32} {n : Nat} (h0 : 0 ≤ x) (h : x.toNatClampNeg < n) (b : Option β) : d_ab x n b = b := by
  unfold d_ab
  rw [if_pos ⟨h0, h⟩]
theorem nz_e {β : Type} {y : Int32} (h : ¬ y = 0) (b : Option β) : d_nz y b = b := by simp [d_nz, h]
theorem zb_e {β : Type} {y : Int32} (h : y = 0 ∨ y = 1) (b : Option β) : d_zb y b = b := by simp [d_zb, h]
theorem ix38 (g f : Nat) : (38 : Int32) + (5 : Int32) * nI g + nI f = nI (38 + 5 * g + f) := by
  rw [show (38 : Int32) = nI 38 from rfl, show (5 : Int32) = nI 5 from rfl, nI_mul, nI_ad, nI_ad]
theorem ix5 (g f : Nat) : nI g * (5 : Int32) + nI f = nI (5 * g + f) := by
  rw [show (5 : Int32) = nI 5 from rfl, nI_mul, nI_ad, Nat.mul_comm]
theorem ixn (c : Nat) {x : Int32} (h : x = nI c) (g : Nat) : x + nI g = nI (c + g) := by rw [h, nI_ad]
theorem ix26 (g : Nat) : (26 : Int32) + nI g = nI (26 + g) := ixn 26 rfl g
theorem ix30 (g : Nat) : (30 : Int32) + nI g = nI (30 + g) := ixn 30 rfl g
theorem ix34 (g : Nat) : (34 : Int32) + nI g = nI (34 + g) := ixn 34 rfl g
theorem ix5a (g : Nat) : (5 : Int32) + nI g = nI (5 + g) := ixn 5 rfl g
theorem ix10 (g : Nat) : (10 : Int32) + nI g = nI (10 + g) := ixn 10 rfl g
theorem ix17 (g : Nat) : (17 : Int32) + nI g = nI (17 + g) := ixn 17 rfl g
theorem ix1 (g : Nat) : nI g + (1 : Int32) = nI (g + 1) := (nI_succ g).symm
theorem wr_row (g : Grp) (j i : Nat) (v : Int32) : wr g j i v j = upd (g j) i v := by simp [wr]
theorem wr_oth {g : Grp} {j j' i : Nat} (v : Int32) (h : ¬ j' = j) : wr g j i v j' = g j' := by simp [wr, h]
theorem wa_row (g : Grp) (j : Nat) (f : Nat → Int32) : wa g j f j = f := by simp [wa]
theorem wa_oth {g : Grp} {j j' : Nat} (f : Nat → Int32) (h : ¬ j' = j) : wa g j f j' = g j' := by simp [wa, h]
theorem wr_wa2 (g : Grp) (j : Nat) (f : Nat → Int32) (i : Nat) (v : Int32) : wr (wa g j f) j i v = wa g j (upd f i v) := by
  funext j'
  by_cases h : j' = j <;> simp [wr, wa, h]
theorem wa_self (g : Grp) (j : Nat) : wa g j (g j) = g := by
  funext j'
  by_cases h : j' = j <;> simp [wa, h]
theorem wa_wa (g : Grp) (j : Nat) (f f' : Nat → Int32) : wa (wa g j f) j f' = wa g j f' := by
  funext j'
  by_cases h : j' = j <;> simp [wa, h]
theorem upd_at (f : Nat → Int32) (i : Nat) (v : Int32) : upd f i v i = v := by simp [upd]
theorem upd_ne {f : Nat → Int32} {i j : Nat} {v : Int32} (h : ¬ j = i) : upd f i v j = f j := by simp [upd, h]
/-! the words of the document, on a row of 59 numbers (places, counts, batteries, the ear, what it keeps, noise, openings, waits, last counts, hours) -/
abbrev Row : Type := Nat → Int32
def cd (s c : Int32) : Int32 := jrem (s * 61 + c * 13 + s * c) 509
def mtc (s last code most : Int32) : Nat → Int32 → Int32
  | 0, _ => -1
  | n + 1, k => if k ≤ most then (if cd s (jrem (last + k) 10000) = code then k else mtc s last code most n (k + 1)) else -1
/-- the first count ahead that has the code: of gate g with its kind and window, of fob f with its secret -/
def mt (kd wn sec : Row) (r : Row) (g f : Nat) (code : Int32) : Int32 := mtc (sec f) (r (38 + 5 * g + f)) code (if kd g = 1 then 1 else wn g) 1000 (if kd g = 2 then 0 else 1)
def sfind (kd wn sec : Row) (r : Row) (g : Nat) (code : Int32) : Nat → Nat → Option Nat
  | 0, _ => none
  | n + 1, f => if mt kd wn sec r g f code = -1 then sfind kd wn sec r g code n (f + 1) else some f
def sopen (r : Row) (g f : Nat) (c : Int32) : Row := upd (upd (upd (upd r (38 + 5 * g + f) c) (26 + g) (if r (26 + g) < 9999 then r (26 + g) + 1 else r (26 + g))) (30 + g) (-1)) (34 + g) (-1)
def shears (kd wn sec : Row) (Fb : Nat) (r : Row) (g : Nat) (code : Int32) : Int32 × Row :=
  if ¬ r (30 + g) = -1 ∧ cd (sec (r (30 + g)).toNatClampNeg) (r (34 + g)) = code then (1, sopen r g (r (30 + g)).toNatClampNeg (r (34 + g)))
  else match sfind kd wn sec r g code Fb 0 with
    | none => (0, r)
    | some f =>
      if kd g = 3 ∧ ¬ mt kd wn sec r g f code ≤ 4 then (0, upd (upd r (30 + g) (nI f)) (34 + g) (jrem (jrem (r (38 + 5 * g + f) + mt kd wn sec r g f code) 10000 + 1) 10000))
      else (1, sopen r g f (jrem (r (38 + 5 * g + f) + mt kd wn sec r g f code) 10000))
theorem i32_succ {a b : Int32} (h : a < b) : (a + 1).toInt = a.toInt + 1 := by
  have h1 := Int32.lt_iff_toInt_lt.mp h
  have h2 : b.toInt < 2 ^ 31 := by have := Int32.toInt_lt b; omega
  have h3 : -2 ^ 31 ≤ a.toInt := by have := Int32.le_toInt a; omega
  rw [Int32.toInt_add]
  rw [show (1 : Int32).toInt = 1 from rfl]
  rw [Int.bmod_eq_of_le] <;> omega
theorem mtc_val (s last code most : Int32) (hm : most.toInt ≤ 1000) : ∀ (n : Nat) (k : Int32), 0 ≤ k → mtc s last code most n k = -1 ∨ (0 ≤ mtc s last code most n k ∧ mtc s last code most n k ≤ most) := by
  intro n
  induction n with
  | zero => intro k _; exact Or.inl rfl
  | succ n ih =>
    intro k h0
    unfold mtc
    by_cases h : k ≤ most
    · rw [if_pos h]
      by_cases h2 : cd s (jrem (last + k) 10000) = code
      · rw [if_pos h2]; exact Or.inr ⟨h0, h⟩
      · rw [if_neg h2]
        refine ih (k + 1) ?_
        have h3 := Int32.le_iff_toInt_le.mp h
        have h4 : (k + 1).toInt = k.toInt + 1 := i32_succ (b := 1001) (by rw [Int32.lt_iff_toInt_lt]; have : (1001 : Int32).toInt = 1001 := rfl; omega)
        rw [Int32.le_iff_toInt_le] at h0 ⊢
        rw [h4]
        have : (0 : Int32).toInt = 0 := rfl
        omega
    · rw [if_neg h]; exact Or.inl rfl
