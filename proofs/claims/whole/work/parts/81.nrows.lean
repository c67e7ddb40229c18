/-! walks that make cells: the world is a list that grows; the object that is being made stands first -/
def N (Y : Dy) (l : Launch) (D : va_G) (ws : va_W) (ce sl pc : Nat) (lv : List (Nat × Value)) (st : List Value) : Prop :=
  match Y with
  | (p, e, R, s, m, args, below, meth, c, Q, A, nL, _, _) => ∀ (H : Heap) (locs : List Loc) (ls : Array Slot), va_P D vwCl ws H → va_D A ws → va_S A s.heap H locs → lv_has ls nL lv → W p l e R s m args below meth c H locs ce sl Q (F0 m pc ls st)
def Nx (Y : Dy) (D : va_G) (cy : Nat → ClassId) (t6 : Nat → Nat) (cc : ByteArray) (own : String) (dd : Nat) : Prop :=
  match Y with
  | (p, _, R, s, m, args, _, meth, c, _, A, nL, CE, SL) => p.tables.exec = Jvm.exec ∧ c.code = cc ∧ c.maxLocals = nL ∧ s.vm.findClass own = some m.cls ∧ (∀ w ∈ TB, w.before args s = true) ∧ (∀ w ∈ NB, va_Nw w s) ∧ va_K D vwCl (tyz cy) s ∧ (∀ q : Nat, s.heap.size ≤ q → A q) ∧ meth.locks = false ∧ (dd ≤ R.frames ∧ 100 * dd ≤ R.locals ∧ CE ≤ R.cells ∧ SL ≤ R.slots ∧ 1 ≤ dd) ∧ va_AO "RollingCodes$Scene" s ∧ SZ t6 A s
def Nm (Y : Dy) : Prop := match Y with
  | (_, _, _, _, _, _, _, meth, _, _, _, _, _, _) => meth.name = "<init>"
/-- what the tables say of a constructor -/
def YI (y : MethodName) (cc2 : ByteArray) (maxL n : Nat) : Prop := Cond.code y cc2 maxL none ∈ TB ∧ Cond.instanceMethod y ∈ TB ∧ Cond.initialized y.cls ∈ TB ∧ y.cls ≠ "java/lang/invoke/MethodHandle" ∧ y.cls ≠ "java/lang/invoke/VarHandle" ∧ (parseMethodDescriptor y.desc).map (fun d => d.parameters.length) = some n ∧ maxL ≤ 70 ∧ y.name = "<init>"
/-- what the tables say of a class that is made -/
def YN (own : String) (idx t : Nat) : Prop := ∃ C, (vwCl[t]?).map (fun q => q.1) = some C ∧ Cond.classLink own idx C ∈ TB ∧ Cond.instantiable C (nf t) ∈ TB ∧ Cond.initialized C ∈ TB
section NRows
variable {Y : Dy} {l : Launch} {D : va_G} {cy : Nat → ClassId} {t6 : Nat → Nat} {cc : ByteArray} {own : String} {dd ce sl pc : Nat} {ws : va_W} {lv lv' : List (Nat × Value)} {st : List Value}
theorem n_ws {ws2 : va_W} (h : ws = ws2) (k : N Y l D ws2 ce sl pc lv st) : N Y l D ws ce sl pc lv st := h ▸ k
theorem n_lv (is : List Nat) (h : lv_pick lv is = lv') (k : N Y l D ws ce sl pc lv' st) : N Y l D ws ce sl pc lv st := by
  obtain ⟨p, e, R, s, m, args, below, meth, c, Q, A, nL, CE, SL⟩ := Y
  intro H locs ls hP hD hS hl
  exact k H locs ls hP hD hS (lv_sub hl is h)
theorem n_aload_n (F : Nx Y D cy t6 cc own dd) {j : Fin 4} {i : Nat} {x : Nat} (d : decode cc pc = .ok (.aload_n j, 1)) (q : Nat) (hq : lv[q]? = some (i, .ref x)) (hj : (j : Nat) = i) (k : N Y l D ws ce sl (pc + 1) lv (.ref x :: st)) : N Y l D ws ce sl pc lv st := by
  obtain ⟨p, e, R, s, m, args, below, meth, c, Q, A, nL, CE, SL⟩ := Y
  obtain ⟨hx, hb, hml, hown, hts, hnb, hK, hA, hlk, hR, hAO, hZ⟩ := F
  intro H locs ls hP hD hS hl
  exact lv_aload_n hx hb d hj (lv_at hl q hq) (k H locs ls hP hD hS hl)
theorem n_iload_n (F : Nx Y D cy t6 cc own dd) {j : Fin 4} {i : Nat} {x : Int32} (d : decode cc pc = .ok (.iload_n j, 1)) (q : Nat) (hq : lv[q]? = some (i, .int x)) (hj : (j : Nat) = i) (k : N Y l D ws ce sl (pc + 1) lv (.int x :: st)) : N Y l D ws ce sl pc lv st := by
  obtain ⟨p, e, R, s, m, args, below, meth, c, Q, A, nL, CE, SL⟩ := Y
  obtain ⟨hx, hb, hml, hown, hts, hnb, hK, hA, hlk, hR, hAO, hZ⟩ := F
  intro H locs ls hP hD hS hl
  exact lv_iload_n hx hb d hj (lv_at hl q hq) (k H locs ls hP hD hS hl)
theorem n_iconst (F : Nx Y D cy t6 cc own dd) {n : Int} {v : Int32} (d : decode cc pc = .ok (.iconst n, 1)) (hv : Int32.ofInt n = v) (k : N Y l D ws ce sl (pc + 1) lv (.int v :: st)) : N Y l D ws ce sl pc lv st := by
  obtain ⟨p, e, R, s, m, args, below, meth, c, Q, A, nL, CE, SL⟩ := Y
  obtain ⟨hx, hb, hml, hown, hts, hnb, hK, hA, hlk, hR, hAO, hZ⟩ := F
  intro H locs ls hP hD hS hl
  exact lv_iconst hx hb d hv (k H locs ls hP hD hS hl)
theorem n_bipush (F : Nx Y D cy t6 cc own dd) {n : Int} {v : Int32} (d : decode cc pc = .ok (.bipush n, 2)) (hv : (Int8.ofInt n).toInt32 = v) (k : N Y l D ws ce sl (pc + 2) lv (.int v :: st)) : N Y l D ws ce sl pc lv st := by
  obtain ⟨p, e, R, s, m, args, below, meth, c, Q, A, nL, CE, SL⟩ := Y
  obtain ⟨hx, hb, hml, hown, hts, hnb, hK, hA, hlk, hR, hAO, hZ⟩ := F
  intro H locs ls hP hD hS hl
  exact lv_bipush hx hb d hv (k H locs ls hP hD hS hl)
theorem n_sipush (F : Nx Y D cy t6 cc own dd) {n : Int} {v : Int32} (d : decode cc pc = .ok (.sipush n, 3)) (hv : (Int16.ofInt n).toInt32 = v) (k : N Y l D ws ce sl (pc + 3) lv (.int v :: st)) : N Y l D ws ce sl pc lv st := by
  obtain ⟨p, e, R, s, m, args, below, meth, c, Q, A, nL, CE, SL⟩ := Y
  obtain ⟨hx, hb, hml, hown, hts, hnb, hK, hA, hlk, hR, hAO, hZ⟩ := F
  intro H locs ls hP hD hS hl
  exact lv_sipush hx hb d hv (k H locs ls hP hD hS hl)
theorem n_istore_n {nL : Nat} (F : Nx Y D cy t6 cc own dd) {j : Fin 4} {i : Nat} {x : Int32} (d : decode cc pc = .ok (.istore_n j, 1)) (hj : (j : Nat) = i) (hY : Y.2.2.2.2.2.2.2.2.2.2.2.1 = nL) (hn : i < nL) (hlv : (i, Value.int x) :: lv.filter (fun q => !(q.1 == i) && !(q.1 + 1 == i && q.2.category == 2)) = lv') (k : N Y l D ws ce sl (pc + 1) lv' st) : N Y l D ws ce sl pc lv (.int x :: st) := by
  subst hY
  obtain ⟨p, e, R, s, m, args, below, meth, c, Q, A, nL, CE, SL⟩ := Y
  obtain ⟨hx, hb, hml, hown, hts, hnb, hK, hA, hlk, hR, hAO, hZ⟩ := F
  intro H locs ls hP hD hS hl
  exact lv_istore_n hx hb d hj hl hn hlv (fun ls hl => k H locs ls hP hD hS hl)
theorem n_astore_n {nL : Nat} (F : Nx Y D cy t6 cc own dd) {j : Fin 4} {i : Nat} {x : Nat} (d : decode cc pc = .ok (.astore_n j, 1)) (hj : (j : Nat) = i) (hY : Y.2.2.2.2.2.2.2.2.2.2.2.1 = nL) (hn : i < nL) (hlv : (i, Value.ref x) :: lv.filter (fun q => !(q.1 == i) && !(q.1 + 1 == i && q.2.category == 2)) = lv') (k : N Y l D ws ce sl (pc + 1) lv' st) : N Y l D ws ce sl pc lv (.ref x :: st) := by
  subst hY
  obtain ⟨p, e, R, s, m, args, below, meth, c, Q, A, nL, CE, SL⟩ := Y
  obtain ⟨hx, hb, hml, hown, hts, hnb, hK, hA, hlk, hR, hAO, hZ⟩ := F
  intro H locs ls hP hD hS hl
  exact lv_astore_n hx hb d hj hl hn hlv (fun ls hl => k H locs ls hP hD hS hl)
theorem n_iinc {nL : Nat} (F : Nx Y D cy t6 cc own dd) {i : Nat} {n : Int} {x v : Int32} (d : decode cc pc = .ok (.iinc i n, 3)) (q : Nat) (hq : lv[q]? = some (i, .int x)) (hv : x + Int32.ofInt n = v) (hY : Y.2.2.2.2.2.2.2.2.2.2.2.1 = nL) (hn : i < nL) (hlv : (i, Value.int v) :: lv.filter (fun q => !(q.1 == i) && !(q.1 + 1 == i && q.2.category == 2)) = lv') (k : N Y l D ws ce sl (pc + 3) lv' st) : N Y l D ws ce sl pc lv st := by
  subst hY
  obtain ⟨p, e, R, s, m, args, below, meth, c, Q, A, nL, CE, SL⟩ := Y
  obtain ⟨hx, hb, hml, hown, hts, hnb, hK, hA, hlk, hR, hAO, hZ⟩ := F
  intro H locs ls hP hD hS hl
  exact lv_iinc hx hb d hl hq hv hn hlv (fun ls hl => k H locs ls hP hD hS hl)
theorem n_dup (F : Nx Y D cy t6 cc own dd) {va : Value} (d : decode cc pc = .ok (.dup, 1)) (hva : va.category = 1) (k : N Y l D ws ce sl (pc + 1) lv (va :: va :: st)) : N Y l D ws ce sl pc lv (va :: st) := by
  obtain ⟨p, e, R, s, m, args, below, meth, c, Q, A, nL, CE, SL⟩ := Y
  obtain ⟨hx, hb, hml, hown, hts, hnb, hK, hA, hlk, hR, hAO, hZ⟩ := F
  intro H locs ls hP hD hS hl
  exact lv_dup hx hb d hva (k H locs ls hP hD hS hl)
theorem n_goto (F : Nx Y D cy t6 cc own dd) {off : Int} (tgt : Nat) (d : decode cc pc = .ok (.goto off, 3)) (ht : (pc : Int) + off = (tgt : Int)) (k : N Y l D ws ce sl tgt lv st) : N Y l D ws ce sl pc lv st := by
  obtain ⟨p, e, R, s, m, args, below, meth, c, Q, A, nL, CE, SL⟩ := Y
  obtain ⟨hx, hb, hml, hown, hts, hnb, hK, hA, hlk, hR, hAO, hZ⟩ := F
  intro H locs ls hP hD hS hl
  exact lv_goto hx hb d ht (k H locs ls hP hD hS hl)
theorem n_icmp_ge (F : Nx Y D cy t6 cc own dd) {x y : Int32} {off : Int} (tgt : Nat) (d : decode cc pc = .ok (.if_icmp .ge off, 3)) (ht : (pc : Int) + off = (tgt : Int)) (kt : ¬ (x < y) → N Y l D ws ce sl tgt lv st) (kf : x < y → N Y l D ws ce sl (pc + 3) lv st) : N Y l D ws ce sl pc lv (.int y :: .int x :: st) := by
  obtain ⟨p, e, R, s, m, args, below, meth, c, Q, A, nL, CE, SL⟩ := Y
  obtain ⟨hx, hb, hml, hown, hts, hnb, hK, hA, hlk, hR, hAO, hZ⟩ := F
  intro H locs ls hP hD hS hl
  exact lv_icmp_ge hx hb d ht (fun h => kt (Int32.not_lt.mpr h) H locs ls hP hD hS hl) (fun h => kf (Int32.not_le.mp h) H locs ls hP hD hS hl)
theorem n_icmp_gt (F : Nx Y D cy t6 cc own dd) {x y : Int32} {off : Int} (tgt : Nat) (d : decode cc pc = .ok (.if_icmp .gt off, 3)) (ht : (pc : Int) + off = (tgt : Int)) (kt : ¬ (x ≤ y) → N Y l D ws ce sl tgt lv st) (kf : x ≤ y → N Y l D ws ce sl (pc + 3) lv st) : N Y l D ws ce sl pc lv (.int y :: .int x :: st) := by
  obtain ⟨p, e, R, s, m, args, below, meth, c, Q, A, nL, CE, SL⟩ := Y
  obtain ⟨hx, hb, hml, hown, hts, hnb, hK, hA, hlk, hR, hAO, hZ⟩ := F
  intro H locs ls hP hD hS hl
  exact lv_icmp_gt hx hb d ht (fun h => kt (Int32.not_le.mpr h) H locs ls hP hD hS hl) (fun h => kf (Int32.not_lt.mp h) H locs ls hP hD hS hl)
theorem oi_i : Cond.instanceMethod objectInit ∈ TB := tb_of (i := 22) (by decide +kernel) rfl
theorem oi_c : Cond.code objectInit ⟨#[0xb1]⟩ 1 none ∈ TB := tb_of (i := 23) (by decide +kernel) rfl
theorem n_obj (F : Nx Y D cy t6 cc own dd) {idx x : Nat} (d : decode cc pc = .ok (.invokespecial idx, 3)) (hm : Cond.methodLink own idx objectInit ∈ TB) (hst : st = []) (k : N Y l D ws ce sl (pc + 3) lv st) : N Y l D ws ce sl pc lv (.ref x :: st) := by
  obtain ⟨p, e, R, s, m, args, below, meth, c, Q, A, nL, CE, SL⟩ := Y
  obtain ⟨hx, hb, hml, hown, hts, hnb, hK, hA, hlk, hR, hAO, hZ⟩ := F
  intro H locs ls hP hD hS hl
  subst hst
  refine W.objInit hx hb hown (hts _ hm) (hts _ oi_i) (hts _ oi_c) rfl (by rw [hml]; exact hl.1) rfl d (by omega) ?_ ?_
  · show 2 * 0 + 0 + 12 ≤ R.locals
    omega
  · exact k H locs ls hP hD hS hl
theorem n_newI (F : Nx Y D cy t6 cc own dd) {n : Int32} {N' : Nat} (d : decode cc pc = .ok (.newarray .int, 2)) (hn : ¬ n < 0) (hN : n.toNatClampNeg = N') (hb4 : N' ≤ 100000) (hce : ce + 1 ≤ Y.2.2.2.2.2.2.2.2.2.2.2.2.1) (hsl : sl + N' ≤ Y.2.2.2.2.2.2.2.2.2.2.2.2.2) (k : ∀ q, N Y l D (ws ++ [(q, .inl (cy 0, N', .inl (fun _ => 0)))]) (ce + 1) (sl + N') (pc + 2) lv (.ref q :: st)) : N Y l D ws ce sl pc lv (.int n :: st) := by
  obtain ⟨p, e, R, s, m, args, below, meth, c, Q, A, nL, CE, SL⟩ := Y
  obtain ⟨hx, hb, hml, hown, hts, hnb, hK, hA, hlk, hR, hAO, hZ⟩ := F
  intro H locs ls hP hD hS hl
  have h1 : ce + 1 ≤ CE := hce
  have h2 : sl + N' ≤ SL := hsl
  refine va_newa (atype := .int) (ty := .int) (a0 := (N', .inl (fun _ => 0))) hx hb (hts _ (tb_of (i := 39) (by decide +kernel) rfl)) rfl hK hP hD hS hA (fun _ => rfl) hn hN ?_ (by omega) (by omega) d (fun q cA H1 hK1 hP1 hD1 hS1 => ?_)
  · show N' * 4 ≤ 536870912
    omega
  · have e1 : va_RA s cA .int := (hK1.2 3 (cA, .int) rfl).2
    have e2 : va_RA s (cy 0) .int := (hK.2 0 (cy 0, .int) rfl).2
    have e3 : cA = cy 0 := Option.some.inj ((show s.vm.findClass _ = some cA from e1).symm.trans e2)
    rw [e3] at hP1 hD1
    exact k q H1 locs ls hP1 hD1 hS1 hl
theorem n_newZ (F : Nx Y D cy t6 cc own dd) {n : Int32} {N' : Nat} (d : decode cc pc = .ok (.newarray .boolean, 2)) (hn : ¬ n < 0) (hN : n.toNatClampNeg = N') (hb4 : N' ≤ 100000) (hce : ce + 1 ≤ Y.2.2.2.2.2.2.2.2.2.2.2.2.1) (hsl : sl + N' ≤ Y.2.2.2.2.2.2.2.2.2.2.2.2.2) (k : ∀ q, N Y l D (ws ++ [(q, .inl (cy 1, N', .inl (fun _ => 0)))]) (ce + 1) (sl + N') (pc + 2) lv (.ref q :: st)) : N Y l D ws ce sl pc lv (.int n :: st) := by
  obtain ⟨p, e, R, s, m, args, below, meth, c, Q, A, nL, CE, SL⟩ := Y
  obtain ⟨hx, hb, hml, hown, hts, hnb, hK, hA, hlk, hR, hAO, hZ⟩ := F
  intro H locs ls hP hD hS hl
  have h1 : ce + 1 ≤ CE := hce
  have h2 : sl + N' ≤ SL := hsl
  refine va_newa (atype := .boolean) (ty := .boolean) (a0 := (N', .inl (fun _ => 0))) hx hb (hts _ (tb_of (i := 234) (by decide +kernel) rfl)) rfl hK hP hD hS hA (fun _ => rfl) hn hN ?_ (by omega) (by omega) d (fun q cA H1 hK1 hP1 hD1 hS1 => ?_)
  · show N' * 1 ≤ 536870912
    omega
  · have e1 : va_RA s cA .boolean := (hK1.2 3 (cA, .boolean) rfl).2
    have e2 : va_RA s (cy 1) .boolean := (hK.2 1 (cy 1, .boolean) rfl).2
    have e3 : cA = cy 1 := Option.some.inj ((show s.vm.findClass _ = some cA from e1).symm.trans e2)
    rw [e3] at hP1 hD1
    exact k q H1 locs ls hP1 hD1 hS1 hl
theorem n_newq (F : Nx Y D cy t6 cc own dd) {n : Int32} {N' idx : Nat} (d : decode cc pc = .ok (.anewarray idx, 3)) (hcl : Cond.classLink own idx "RollingCodes$Scene" ∈ TB) (hn : ¬ n < 0) (hN : n.toNatClampNeg = N') (hb4 : N' ≤ 100000) (hce : ce + 1 ≤ Y.2.2.2.2.2.2.2.2.2.2.2.2.1) (hsl : sl + N' ≤ Y.2.2.2.2.2.2.2.2.2.2.2.2.2) (k : ∀ q, N Y l D (ws ++ [(q, .inl (cy 2, N', .inr (.inr (.inr (.inr (fun _ => none))))))]) (ce + 1) (sl + N') (pc + 3) lv (.ref q :: st)) : N Y l D ws ce sl pc lv (.int n :: st) := by
  obtain ⟨p, e, R, s, m, args, below, meth, c, Q, A, nL, CE, SL⟩ := Y
  obtain ⟨hx, hb, hml, hown, hts, hnb, hK, hA, hlk, hR, hAO, hZ⟩ := F
  intro H locs ls hP hD hS hl
  have h1 : ce + 1 ≤ CE := hce
  have h2 : sl + N' ≤ SL := hsl
  refine va_newq hx hb hown (hts _ hcl) hAO hK hP hD hS hA hn hN (by omega) (by omega) (by omega) d (fun q cA H1 hK1 hP1 hD1 hS1 => ?_)
  have e1 : va_RA s cA (.object "RollingCodes$Scene") := (hK1.2 3 (cA, .object "RollingCodes$Scene") rfl).2
  have e2 : va_RA s (cy 2) (.object "RollingCodes$Scene") := (hK.2 2 (cy 2, .object "RollingCodes$Scene") rfl).2
  obtain ⟨k1, c1, x1, x2, x3, x4⟩ := e1
  obtain ⟨k2, c2, y1, y2, y3, y4⟩ := e2
  have e3 : cA = cy 2 := Option.some.inj (x4.symm.trans y4)
  rw [e3] at hP1 hD1
  exact k q H1 locs ls hP1 hD1 hS1 hl
theorem n_new (F : Nx Y D cy t6 cc own dd) {idx t : Nat} {fs : List Value} (d : decode cc pc = .ok (.new idx, 3)) (hC : CK t) (hN : YN own idx t) (hfs : ∀ (ty : Nat → FieldType), (∀ k, k < nf t → parseFieldDescriptor (fT t k).2.2.1 = some (ty k)) → ∀ j, j < nf t → defaultValue (ty j) = vp_V fs j) (hce : ce + 1 ≤ Y.2.2.2.2.2.2.2.2.2.2.2.2.1) (hsl : sl + nf t ≤ Y.2.2.2.2.2.2.2.2.2.2.2.2.2) (k : ∀ q, N Y l D (ws ++ [(q, .inr (t, fs))]) (ce + 1) (sl + nf t) (pc + 3) lv (.ref q :: st)) : N Y l D ws ce sl pc lv st := by
  obtain ⟨p, e, R, s, m, args, below, meth, c, Q, A, nL, CE, SL⟩ := Y
  obtain ⟨hx, hb, hml, hown, hts, hnb, hK, hA, hlk, hR, hAO, hZ⟩ := F
  obtain ⟨C, T, N0, ty, h1, h2, h3, h4, h5, h6⟩ := hC
  obtain ⟨C2, g1, g2, g3, g4⟩ := hN
  rw [h1] at g1
  have e1 : C = C2 := Option.some.inj g1
  subst e1
  subst h2
  intro H locs ls hP hD hS hl
  have w1 : ce + 1 ≤ CE := hce
  have w2 : sl + nf t ≤ SL := hsl
  refine va_new (ci := t) (fs := fs) (C := C) (T := T) (N := nf t) hx hb hts h3 ty h4 hown (hts _ g2) (hts _ g3) (hts _ g4) hK hP hD hS hA h1 (hfs ty (by rw [← h6]; exact h4)) (by omega) (by omega) d (fun q H1 hP1 hD1 hS1 => ?_)
  exact k q H1 locs ls hP1 hD1 hS1 hl
theorem n_get (F : Nx Y D cy t6 cc own dd) {idx t i a : Nat} {v : Value} {fs : List Value} {tl : va_W} (d : decode cc pc = .ok (.getfield idx, 3)) (hC : CK t) (hf : FL own idx t i) (hi : i < nf t) (hv : fs[i]? = some v) (kk : N Y l D ((a, .inr (t, fs)) :: tl) ce sl (pc + 3) lv (v :: st)) : N Y l D ((a, .inr (t, fs)) :: tl) ce sl pc lv (.ref a :: st) := by
  obtain ⟨p, e, R, s, m, args, below, meth, c, Q, A, nL, CE, SL⟩ := Y
  obtain ⟨hx, hb, hml, hown, hts, hnb, hK, hA, hlk, hR, hAO, hZ⟩ := F
  intro H locs ls hP hD hS hl
  obtain ⟨C, T, N, ty, h1, h2, h3, h4, h5, h6⟩ := hC
  subst h2
  have k2 := kk H locs ls hP hD hS hl
  unfold FL at hf
  rw [← h6] at hf
  rcases hf with hf | ⟨host, hf⟩
  · exact va_get hx hb hts h3 hown hK hP 0 rfl h1 i hi (hts _ hf) (fun _ h9 => h9) hv d k2
  · exact va_getN hx hb hts h3 hown hK hP 0 rfl h1 i hi (va_Nw.use rfl (hnb _ hf)) (fun _ h9 => h9) hv d k2
theorem n_putF (F : Nx Y D cy t6 cc own dd) (hNm : Nm Y) {idx t i a : Nat} {v : Value} {fs : List Value} {tl : va_W} {ty0 : FieldType} (d : decode cc pc = .ok (.putfield idx, 3)) (hC : CK t) (hf : Cond.fieldLink own idx (fT t i).1 (fT t i).2.1 (fT t i).2.2.1 ∈ TB) (hi : i < nf t) (hfin : (fT t i).2.2.2 = true) (hdc : (fT t i).1 = own) (hty : parseFieldDescriptor (fT t i).2.2.1 = some ty0) (hn : narrow ty0 v = v) (hfit : fits ty0 v = true) (hln : i < fs.length) (kk : N Y l D ((a, .inr (t, fs.set i v)) :: tl) ce sl (pc + 3) lv st) : N Y l D ((a, .inr (t, fs)) :: tl) ce sl pc lv (v :: .ref a :: st) := by
  obtain ⟨p, e, R, s, m, args, below, meth, c, Q, A, nL, CE, SL⟩ := Y
  obtain ⟨hx, hb, hml, hown, hts, hnb, hK, hA, hlk, hR, hAO, hZ⟩ := F
  intro H locs ls hP hD hS hl
  obtain ⟨C, T, N, ty, h1, h2, h3, h4, h5, h6⟩ := hC
  subst h2
  rw [← h6] at hf hfin hty hdc
  exact va_putF hx hb hts h3 ty h4 h5 hown hK hP hD hS 0 rfl h1 i hi (hts _ hf) (fun _ h9 => h9) hfin hNm hdc hty hn hfit hln d (fun H1 locs1 a1 a2 a3 => kk H1 locs1 ls a1 a2 a3 hl)
theorem n_put (F : Nx Y D cy t6 cc own dd) {idx t i a : Nat} {v : Value} {fs : List Value} {tl : va_W} {ty0 : FieldType} (d : decode cc pc = .ok (.putfield idx, 3)) (hC : CK t) (hf : Cond.fieldLink own idx (fT t i).1 (fT t i).2.1 (fT t i).2.2.1 ∈ TB) (hi : i < nf t) (hfin : (fT t i).2.2.2 = false) (hty : parseFieldDescriptor (fT t i).2.2.1 = some ty0) (hn : narrow ty0 v = v) (hfit : fits ty0 v = true) (hln : i < fs.length) (kk : N Y l D ((a, .inr (t, fs.set i v)) :: tl) ce sl (pc + 3) lv st) : N Y l D ((a, .inr (t, fs)) :: tl) ce sl pc lv (v :: .ref a :: st) := by
  obtain ⟨p, e, R, s, m, args, below, meth, c, Q, A, nL, CE, SL⟩ := Y
  obtain ⟨hx, hb, hml, hown, hts, hnb, hK, hA, hlk, hR, hAO, hZ⟩ := F
  intro H locs ls hP hD hS hl
  obtain ⟨C, T, N, ty, h1, h2, h3, h4, h5, h6⟩ := hC
  subst h2
  rw [← h6] at hf hfin hty
  exact va_put hx hb hts h3 ty h4 h5 hown hK hP hD hS 0 rfl h1 i hi (hts _ hf) (fun _ h9 => h9) hfin hty hn hfit hln d (fun H1 locs1 a1 a2 a3 => kk H1 locs1 ls a1 a2 a3 hl)
theorem n_astq (F : Nx Y D cy t6 cc own dd) {a v n qk : Nat} {i : Int32} {x : Nat × va_E} {tl : va_W} {vs : List Value} {f : Nat → Option Nat} (d : decode cc pc = .ok (.aastore, 1)) (hv : (x :: (a, Sum.inl (cy 2, n, .inr (.inr (.inr (.inr f))))) :: tl : va_W)[qk]? = some (v, .inr (7, vs))) (hin : vp_in i n) (kk : N Y l D (x :: (a, .inl (cy 2, n, .inr (.inr (.inr (.inr (va_up f i.toNatClampNeg (some v))))))) :: tl) ce sl (pc + 1) lv st) : N Y l D (x :: (a, .inl (cy 2, n, .inr (.inr (.inr (.inr f))))) :: tl) ce sl pc lv (.ref v :: .int i :: .ref a :: st) := by
  obtain ⟨p, e, R, s, m, args, below, meth, c, Q, A, nL, CE, SL⟩ := Y
  obtain ⟨hx, hb, hml, hown, hts, hnb, hK, hA, hlk, hR, hAO, hZ⟩ := F
  intro H locs ls hP hD hS hl
  exact va_astq (r := (RX7, TX7, 13)) hx hb hK hP hD hS 1 2 qk 7 rfl rfl hv rfl hin d (fun H1 locs1 a1 a2 a3 => kk H1 locs1 ls a1 a2 a3 hl)
end NRows
/-! contracts of constructors -/
def rmN (d mc ms : Nat) : Room := { frames := d, cells := mc, slots := ms, locals := 100 * d }
def PreN (D : va_G) (cy : Nat → ClassId) (t6 : Nat → Nat) (w : va_W) (sz : Nat) (V : State) : Prop := V.heap.size = sz ∧ va_P D vwCl w V.heap ∧ va_K D vwCl (tyz cy) V ∧ va_D (fun _ => True) w ∧ (∀ w ∈ NB, va_Nw w V) ∧ va_AO "RollingCodes$Scene" V ∧ SZ t6 (va_A w sz) V
def CN (l : Launch) (D : va_G) (cy : Nat → ClassId) (t6 : Nat → Nat) (y : MethodName) (cc : ByteArray) (maxL d : Nat) (As : List Value) (w0 : va_W) {S : Type} (post : S → Prop) (w1 : S → va_W) (mc ms : Nat) : Prop :=
  ∀ sz : Nat, Met l y (.code y cc maxL none :: TB) (rmN d mc ms) (va_Pc As (PreN D cy t6 w0 sz)) (va_Qv post (fun u t => va_P D vwCl (w1 u) t.heap ∧ va_D (va_A w0 sz) (w1 u)) (va_A w0 sz)) mc ms (va_A w0 sz)
theorem PreN.blind {D : va_G} {cy : Nat → ClassId} {t6 : Nat → Nat} {w : va_W} {sz : Nat} {As : List Value} : FrameBlind (va_Pc As (PreN D cy t6 w sz)) := by
  intro a V g mk h
  obtain ⟨h0, h1, h2, h3, h4, h5, h6, h7⟩ := h
  exact ⟨h0, h1, h2, va_K.moved (u := V) (U := V.calling g mk a) (Vm.Alike.refl V.vm) h3, h4, nb_same (s := V) (U := V.calling g mk a) rfl h5, va_AO.moved (u := V) (U := V.calling g mk a) (Vm.Alike.refl V.vm) h6, fun x hx => ⟨va_Z.moved (u := V) (U := V.calling g mk a) (Vm.Alike.refl V.vm) (h7 x hx).1, va_T.moved (u := V) (U := V.calling g mk a) (Vm.Alike.refl V.vm) (h7 x hx).2⟩⟩
theorem CN.of {l : Launch} {D : va_G} {cy : Nat → ClassId} {t6 : Nat → Nat} {y : MethodName} {cc : ByteArray} {maxL d mc ms : Nat} {As : List Value} {w0 : va_W} {S : Type} {post : S → Prop} {w1 : S → va_W} (hy : plainFor y = true) (hyi : y.name = "<init>") (hlen : (lg_sl As).length ≤ maxL) (hd : 1 ≤ d)
    (body : ∀ Y : Dy, Y.2.2.2.2.2.2.2.2.2.2.2.1 = maxL → Y.2.2.2.2.2.2.2.2.2.2.2.2.1 = mc → Y.2.2.2.2.2.2.2.2.2.2.2.2.2 = ms → Nx Y D cy t6 cc y.cls d → Nm Y → (∀ (pc ce sl : Nat) (lv : List (Nat × Value)) (u : S), post u → ce ≤ mc → sl ≤ ms → decode cc pc = .ok (.return_, 1) → N Y l D (w1 u) ce sl pc lv []) → N Y l D w0 0 0 0 (lv_args 0 As) []) : CN l D cy t6 y cc maxL d As w0 post w1 mc ms := by
  intro sz
  refine ofWF (cc := cc) (maxL := maxL) (ret := none) hy rfl ?_
  intro p e s m args below meth c s₁ B hml hv
  obtain ⟨rfl, hsz, hP, hK, hD0, hNB, hAO, hZ⟩ := hv
  have hts := atoms_spec (ws := .code y cc maxL none :: TB) B.pre
  have hown : s.vm.findClass y.cls = some m.cls := findClass_of_methodNamed B.named
  have hin : meth.name = y.name := (name_of_methodNamed B.named B.method).1
  subst hsz
  have hD := hD0.self (sz := s.heap.size)
  have hl := lv_entry As (n := maxL) hlen
  rw [lg_entry_eq]
  refine body (p, e, (headSpec (.code y cc maxL none :: TB) (rmN d mc ms)).room, s, m, As.toArray, below, meth, c, MQ below (va_Qv post (fun u t => va_P D vwCl (w1 u) t.heap ∧ va_D (va_A w0 s.heap.size) (w1 u)) (va_A w0 s.heap.size)) As.toArray s mc ms (va_A w0 s.heap.size), va_A w0 s.heap.size, maxL, mc, ms) rfl rfl rfl ⟨B.exec, B.bytes, hml, hown, fun w hw => hts w (List.mem_cons_of_mem _ hw), hNB, hK, fun q h => Or.inr h, B.notSynchronized, ⟨Nat.le_refl _, Nat.le_refl _, Nat.le_refl _, Nat.le_refl _, hd⟩, hAO, hZ⟩ (hin.trans hyi) (fun pc ce sl lv u hu hc1 hs1 dr => ?_) s.heap [] _ hP hD va_S.rf hl
  intro H locs ls hP1 hD1 hS1 hl1
  refine W.widen (k := mc) (n := ms) hc1 hs1 ?_
  exact W.vret B.exec B.bytes B.returns (fun t ht hW => ⟨⟨u, rfl, hu, by rw [ht]; exact hP1, hD1⟩, hS1.F ht⟩) hS1.2.2 dr B.notSynchronized
/-- behind a call: what the callee had stands last -/
theorem joinA {A0 : Nat → Prop} {D : va_G} {cl : List vw_C} {rest wc w1 : va_W} {H H1 : Heap} (hP : va_P D cl (rest ++ wc) H) (hD : va_D A0 (rest ++ wc)) (hk : ∀ q : Nat, q < H.size → ¬ va_A wc H.size q → H1[q]? = H[q]?) (hF : ∀ q, va_A wc H.size q → A0 q) (hP1 : va_P D cl w1 H1) (hD1 : va_D (va_A wc H.size) w1) : va_P D cl (rest ++ w1) H1 ∧ va_D A0 (rest ++ w1) := by
  have inl : ∀ (k : Nat) (q : Nat × va_E), rest[k]? = some q → (rest ++ wc)[k]? = some q := fun k q h => by
    rw [List.getElem?_append_left (List.getElem?_eq_some_iff.mp h).1]; exact h
  have inr : ∀ (k : Nat) (q : Nat × va_E), wc[k]? = some q → (rest ++ wc)[rest.length + k]? = some q := fun k q h => by
    rw [List.getElem?_append_right (by omega), Nat.add_sub_cancel_left]; exact h
  have apart : ∀ (k : Nat) (q : Nat × va_E), rest[k]? = some q → q.1 < H.size ∧ ¬ va_A wc H.size q.1 := by
    intro k q hq
    have hl := (hP k q (inl k q hq)).lt
    refine ⟨hl, fun h => ?_⟩
    rcases h with ⟨k2, e, h⟩ | h
    · have hij := hD.1 k (rest.length + k2) q (q.1, e) (inl k q hq) (inr k2 _ h) rfl
      have := (List.getElem?_eq_some_iff.mp hq).1
      omega
    · omega
  refine ⟨va_P.app (fun k q hq => ?_) hP1, va_D.app ⟨fun i j x y hx hy hxy => hD.1 i j x y (inl i x hx) (inl j y hy) hxy, fun k q hq => hD.2 k q (inl k q hq)⟩ (hD1.weaken (fun k q _ h => hF q.1 h)) (fun i j x y hx hy hxy => ?_)⟩
  · obtain ⟨g1, g2⟩ := apart k q hq
    exact (hP k q (inl k q hq)).kept (hk q.1 g1 g2)
  · exact (apart i x hx).2 (by rw [hxy]; exact hD1.2 j y hy)
theorem n_init {Y : Dy} {l : Launch} {D : va_G} {cy : Nat → ClassId} {t6 : Nat → Nat} {cc : ByteArray} {own : String} {dd ce sl pc : Nat} {lv : List (Nat × Value)} {st st0 : List Value} (F : Nx Y D cy t6 cc own dd) {y : MethodName} {cc2 : ByteArray} {maxL d n idx : Nat} {As : List Value} {rest : va_W} {q : Nat} {e0 : va_E} {S : Type} {post : S → Prop} {w1 : S → va_W} {mc ms : Nat} (C : CN l D cy t6 y cc2 maxL d (.ref q :: As) [(q, e0)] post w1 mc ms) (hy : YI y cc2 maxL n) (hm : ML own idx y) (hd : d + 1 ≤ dd) (hn : As.length = n) (hst : st0 = As.reverse ++ .ref q :: st) (hw : (st.map fun v => v.category).sum ≤ 8) (hdg : decode cc pc = .ok (.invokespecial idx, 3)) (hce : ce + mc ≤ Y.2.2.2.2.2.2.2.2.2.2.2.2.1) (hsl : sl + ms ≤ Y.2.2.2.2.2.2.2.2.2.2.2.2.2) (kk : ∀ u, post u → N Y l D (rest ++ w1 u) (ce + mc) (sl + ms) (pc + 3) lv st) : N Y l D (rest ++ [(q, e0)]) ce sl pc lv st0 := by
  obtain ⟨p, e, R, s, m, args, below, meth, c, Q, A, nL, CE, SL⟩ := Y
  obtain ⟨hx, hb, hml, hown, hts, hnb, hK, hA, hlk, hR, hAO, hZ⟩ := F
  obtain ⟨y1, y2, y4, y5, y6, y7, y8, y9⟩ := hy
  intro H locs ls hP hD hS hl
  have h1 : ce + mc ≤ CE := hce
  have h2 : sl + ms ≤ SL := hsl
  have inr : ∀ (k : Nat) (x : Nat × va_E), ([(q, e0)] : va_W)[k]? = some x → (rest ++ [(q, e0)])[rest.length + k]? = some x := fun k x h => by
    rw [List.getElem?_append_right (by omega), Nat.add_sub_cancel_left]; exact h
  have hPc : va_P D vwCl [(q, e0)] H := fun k x h => hP _ x (inr k x h)
  have hDc : va_D (fun _ => True) [(q, e0)] := ⟨fun i j x z hx hz _ => by
    have a1 := (List.getElem?_eq_some_iff.mp hx).1
    have a2 := (List.getElem?_eq_some_iff.mp hz).1
    simp at a1 a2
    omega, fun _ _ _ => trivial⟩
  have hFc : ∀ x, va_A [(q, e0)] H.size x → A x := by
    intro x h
    rcases h with ⟨k, e, h⟩ | h
    · exact hD.2 _ (x, e) (inr k _ h)
    · exact hA x (Nat.le_trans hS.1 h)
  have hrm : (rmN d mc ms).frames + 1 ≤ R.frames ∧ 8 + (maxL + 11) + (rmN d mc ms).locals ≤ R.locals := by
    simp only [rmN]
    omega
  have hpre : PreS s H (va_Pc (.ref q :: As) (PreN D cy t6 [(q, e0)] H.size)) (.ref q :: As) := by
    refine ⟨PreN.blind, ?_⟩
    intro V hV hW
    exact ⟨rfl, by rw [hV], by rw [hV]; exact hPc, va_K.moved hW.alike hK, hDc, nb_warm hW hnb, va_AO.moved hW.alike hAO, hZ.moved hS hV hW.alike hFc⟩
  have hcl : ce + mc ≤ R.cells ∧ sl + ms ≤ R.slots := by omega
  subst hst
  have run : va_Run p l e R s m args below meth c H locs ce sl mc ms (F0 m pc ls (As.reverse ++ .ref q :: st)) st (va_Qv post (fun u t => va_P D vwCl (w1 u) t.heap ∧ va_D (va_A [(q, e0)] H.size) (w1 u)) (va_A [(q, e0)] H.size) (Value.ref q :: As).toArray) (va_A [(q, e0)] H.size) := by
    rcases hm with hm | ⟨host, hm⟩
    · exact va_runI (As := As) (rest := st) ⟨hx, hb, hml, hown, hts⟩ (C H.size) ⟨callB_of n hts (goodT y1) rfl rfl rfl (hts _ y4) (hts _ hm) ⟨y5, y6, y7⟩ hrm, y9, hts _ y2⟩ hpre rfl hn hl.1 rfl (lv_room hw) hdg hcl
    · exact va_runIN (As := As) (rest := st) ⟨hx, hb, hml, hown, hts⟩ (C H.size) ⟨va_cnB n hts (goodT y1) rfl rfl rfl (hnb _ hm) (hts _ y4) ⟨y5, y6, y7⟩ hrm, y9, hts _ y2⟩ hpre rfl hn hl.1 rfl (lv_room hw) hdg hcl
  refine va_callv run hS (fun x _ h => hFc x h) hFc (fun u t H1 locs1 ht hvm hw hB hz1 hk1 hS1 => ?_)
  obtain ⟨b1, b2⟩ := hB
  rw [ht] at b1
  obtain ⟨j1, j2⟩ := joinA hP hD hk1 hFc b1 b2
  exact kk u hw H1 locs1 ls j1 j2 hS1 hl
