section UJdk
variable {Y : Dy} {G : G0} {cc : ByteArray} {own : String} {dd : Nat} {σ : Mem} {pc : Nat} {lv : List (Nat × Value)} {st : List Value}
/-- System.arraycopy from a row of numbers into one -/
theorem u_copy (F : Fx Y G cc own dd) {idx t i k n t2 i2 k2 n2 : Nat} {sp dp z : Int32} (hq : (t, k, i + 1) ∈ cel G) (hk : fk t i = (1, n)) (hq2 : (t2, k2, i2 + 1) ∈ cel G) (hk2 : fk t2 i2 = (1, n2)) (hm : Cond.methodLink own idx arraycopyName ∈ TB) (hna : Cond.native arraycopyName ∈ TB) (hs : Cond.static arraycopyName ∈ TB) (hini : Cond.initialized "java/lang/System" ∈ TB) (h1 : ¬ sp < 0) (h2 : ¬ dp < 0) (h3 : ¬ z < 0) (h4 : sp.toNatClampNeg + z.toNatClampNeg ≤ n) (h5 : dp.toNatClampNeg + z.toNatClampNeg ≤ n2) (hd : 1 ≤ dd) (hw : (st.map fun v => v.category).sum ≤ 8) (d : decode cc pc = .ok (.invokestatic idx, 3)) (kk : U Y G (upM σ t2 k2 (wa (σ t2 k2) (i2 + 1) (va_cpy (σ t k (i + 1)) (σ t2 k2 (i2 + 1)) sp.toNatClampNeg dp.toNatClampNeg z.toNatClampNeg))) (pc + 3) lv st) : U Y G σ pc lv (.int z :: .int dp :: .ref (adr G (t2, k2, i2 + 1)) :: .int sp :: .ref (adr G (t, k, i + 1)) :: st) := by
  obtain ⟨p, e, R, s, m, args, below, meth, c, Q, A, nL, ce, sl⟩ := Y
  obtain ⟨hx, hb, hml, hown, hts, hnb, hK, hA, hlk, hR, hZ⟩ := F
  intro H locs ls hP hD hS hl
  obtain ⟨q0, he, hL⟩ := wl_get (ad := G.2.2.2.2.1) (E := Ev G.2.2.2.2.1 G.2.2.1 σ) hq
  rw [show Ev G.2.2.2.2.1 G.2.2.1 σ (t, k, i + 1) = .inl (G.2.2.1 0, n, .inl (σ t k (i + 1))) by simp [Ev, hk]] at he
  obtain ⟨q1, he2, hL2⟩ := wl_get (ad := G.2.2.2.2.1) (E := Ev G.2.2.2.2.1 G.2.2.1 σ) hq2
  rw [show Ev G.2.2.2.2.1 G.2.2.1 σ (t2, k2, i2 + 1) = .inl (G.2.2.1 0, n2, .inl (σ t2 k2 (i2 + 1))) by simp [Ev, hk2]] at he2
  have hset : ∀ f : Nat → Int32, (wd G σ).set q1 (G.2.2.2.2.1 (t2, k2, i2 + 1), .inl (G.2.2.1 0, n2, .inl f)) = wd G (upM σ t2 k2 (wa (σ t2 k2) (i2 + 1) f)) := by
    intro f
    rw [← Ev_rowI (ad := G.2.2.2.2.1) (cy := G.2.2.1) (σ := σ) (k := k2) hk2]
    exact wl_set hD hL2 (fun q' h => Ev_ne q' h)
  refine va_copyi (ty := .int) hx hb (hml.trans hl.1.symm) hown (hts _ hm) (hts _ hna) (hts _ hs) (hts _ hini) hK hP hD hS q0 q1 0 0 he he2 rfl rfl rfl h1 h2 h3 h4 h5 (fun _ _ => rfl) (by omega) ?_ d (fun H1 locs1 a1 a2 a3 => ?_)
  · have : nativeFrameWords "java/lang/System" "arraycopy" 5 ≤ 60 := by decide +kernel
    omega
  · rw [hset] at a1 a2
    exact kk H1 locs1 ls a1 a2 a3 hl
theorem u_max (F : Fx Y G cc own dd) {idx : Nat} {x y : Int32} (hm : Cond.methodLink own idx Lib.Math.max.name ∈ TB) (hs : Cond.static Lib.Math.max.name ∈ TB) (hini : Cond.initialized "java/lang/Math" ∈ TB) (hc : Cond.code Lib.Math.max.name Lib.Math.max.code 2 (some .int) ∈ TB) (hd : 1 ≤ dd) (hw : (st.map fun v => v.category).sum ≤ 8) (d : decode cc pc = .ok (.invokestatic idx, 3)) (kk : U Y G σ (pc + 3) lv (.int (if x < y then y else x) :: st)) : U Y G σ pc lv (.int y :: .int x :: st) := by
  obtain ⟨p, e, R, s, m, args, below, meth, c, Q, A, nL, ce, sl⟩ := Y
  obtain ⟨hx, hb, hml, hown, hts, hnb, hK, hA, hlk, hR, hZ⟩ := F
  intro H locs ls hP hD hS hl
  exact va_mmax hx hb (hml.trans hl.1.symm) hown (hts _ hm) (hts _ hs) (hts _ hini) (hts _ hc) (by omega) (by omega) hR.2.2.1 hR.2.2.2 d (kk H locs ls hP hD hS hl)
theorem u_min (F : Fx Y G cc own dd) {idx : Nat} {x y : Int32} (hm : Cond.methodLink own idx Lib.Math.min.name ∈ TB) (hs : Cond.static Lib.Math.min.name ∈ TB) (hini : Cond.initialized "java/lang/Math" ∈ TB) (hc : Cond.code Lib.Math.min.name Lib.Math.min.code 2 (some .int) ∈ TB) (hd : 1 ≤ dd) (hw : (st.map fun v => v.category).sum ≤ 8) (d : decode cc pc = .ok (.invokestatic idx, 3)) (kk : U Y G σ (pc + 3) lv (.int (if y < x then y else x) :: st)) : U Y G σ pc lv (.int y :: .int x :: st) := by
  obtain ⟨p, e, R, s, m, args, below, meth, c, Q, A, nL, ce, sl⟩ := Y
  obtain ⟨hx, hb, hml, hown, hts, hnb, hK, hA, hlk, hR, hZ⟩ := F
  intro H locs ls hP hD hS hl
  exact va_mmin hx hb (hml.trans hl.1.symm) hown (hts _ hm) (hts _ hs) (hts _ hini) (hts _ hc) (by omega) (by omega) hR.2.2.1 hR.2.2.2 d (kk H locs ls hP hD hS hl)
theorem u_abs (F : Fx Y G cc own dd) {idx : Nat} {x : Int32} (hm : Cond.methodLink own idx Lib.Math.abs.name ∈ TB) (hs : Cond.static Lib.Math.abs.name ∈ TB) (hini : Cond.initialized "java/lang/Math" ∈ TB) (hc : Cond.code Lib.Math.abs.name Lib.Math.abs.code 1 (some .int) ∈ TB) (hd : 1 ≤ dd) (hw : (st.map fun v => v.category).sum ≤ 8) (d : decode cc pc = .ok (.invokestatic idx, 3)) (kk : U Y G σ (pc + 3) lv (.int (if 0 ≤ x then x else 0 - x) :: st)) : U Y G σ pc lv (.int x :: st) := by
  obtain ⟨p, e, R, s, m, args, below, meth, c, Q, A, nL, ce, sl⟩ := Y
  obtain ⟨hx, hb, hml, hown, hts, hnb, hK, hA, hlk, hR, hZ⟩ := F
  intro H locs ls hP hD hS hl
  exact va_mabs hx hb (hml.trans hl.1.symm) hown (hts _ hm) (hts _ hs) (hts _ hini) (hts _ hc) (by omega) (by omega) hR.2.2.1 hR.2.2.2 d (kk H locs ls hP hD hS hl)
end UJdk
