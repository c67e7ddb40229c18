/-! the law's own script: a row of numbers that nobody writes -/
def Sx (Y : Dy) (b L : Nat) (xs : Nat → Int32) : Prop := match Y with
  | (_, _, _, s, _, _, _, _, _, _, A, _, _, _) => va_X b L xs s s.heap ∧ b < s.heap.size ∧ ¬ A b
section ULaw
variable {Y : Dy} {G : G0} {cc : ByteArray} {own : String} {dd : Nat} {σ : Mem} {pc : Nat} {lv : List (Nat × Value)} {st : List Value} {b L : Nat} {xs : Nat → Int32}
theorem u_slen (F : Fx Y G cc own dd) (X : Sx Y b L xs) (d : decode cc pc = .ok (.arraylength, 1)) (k : U Y G σ (pc + 1) lv (.int (Int32.ofNat L) :: st)) : U Y G σ pc lv (.ref b :: st) := by
  obtain ⟨p, e, R, s, m, args, below, meth, c, Q, A, nL, ce, sl⟩ := Y
  obtain ⟨hx, hb, hml, hown, hts, hnb, hK, hA, hlk, hR, hZ⟩ := F
  obtain ⟨x1, x2, x3⟩ := X
  intro H locs ls hP hD hS hl
  exact va_slen hx hb x1 x2 x3 hS d (k H locs ls hP hD hS hl)
theorem u_sld (F : Fx Y G cc own dd) (X : Sx Y b L xs) {i : Int32} (d : decode cc pc = .ok (.iaload, 1)) (hin : vp_in i L) (k : U Y G σ (pc + 1) lv (.int (xs i.toNatClampNeg) :: st)) : U Y G σ pc lv (.int i :: .ref b :: st) := by
  obtain ⟨p, e, R, s, m, args, below, meth, c, Q, A, nL, ce, sl⟩ := Y
  obtain ⟨hx, hb, hml, hown, hts, hnb, hK, hA, hlk, hR, hZ⟩ := F
  obtain ⟨x1, x2, x3⟩ := X
  intro H locs ls hP hD hS hl
  exact va_sld hx hb x1 x2 x3 hS hin d (k H locs ls hP hD hS hl)
end ULaw
