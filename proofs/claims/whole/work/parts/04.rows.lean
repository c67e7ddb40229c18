/-- of a walk: program, environment, room, start, method, arguments, frames below, method, code, end, cells that may change, locals, cells and slots made -/
abbrev Dy : Type := Program × Env × Room × State × MethodId × Array Value × List Frame × Method × Code × (State → Prop) × (Nat → Prop) × Nat × Nat × Nat
/-- of all walks: launch, class numbers, array classes, the cells, their addresses, the addresses of the reader's static rows -/
abbrev G0 : Type := Launch × va_G × (Nat → ClassId) × List Key × (Key → Nat) × (Nat → Nat)
def adr (G : G0) (q : Key) : Nat := G.2.2.2.2.1 q
def cel (G : G0) : List Key := G.2.2.2.1
def wd (G : G0) (σ : Mem) : va_W := wl G.2.2.2.1 G.2.2.2.2.1 (Ev G.2.2.2.2.1 G.2.2.1 σ)
def tyz (cy : Nat → ClassId) : List (ClassId × FieldType) := [(cy 0, .int), (cy 1, .boolean), (cy 2, .object "RollingCodes$Scene")]
/-- the reader's static rows: their names, lengths, numbers -/
def sn : Nat → String
  | 0 => "EAR_MOST" | 1 => "EAR_LEAST" | 2 => "GATE_MOST" | 3 => "GATE_LEAST" | 4 => "FOB_MOST" | _ => "FOB_LEAST"
def sn_len : Nat → Nat
  | 0 => 2 | 1 => 2 | 2 => 3 | 3 => 3 | 4 => 5 | _ => 5
def sn_at : Nat → Nat → Int32
  | 0, _ => 9
  | 2, 0 => 3 | 2, 1 => 9 | 2, _ => 32
  | 3, 2 => 1
  | 4, 0 => 3 | 4, 1 => 9 | 4, 2 => 9 | 4, 3 => 255 | 4, _ => 999
  | _, _ => 0
def SZ (t6 : Nat → Nat) (A : Nat → Prop) (U : State) : Prop := ∀ x : Nat, x < 6 → va_Z "RollingCodes$Reader" (sn x) "[I" (.ref (t6 x)) A U U.heap ∧ va_T .int (t6 x) (sn_len x) (fun i => .int (sn_at x i)) A U U.heap
def U (Y : Dy) (G : G0) (σ : Mem) (pc : Nat) (lv : List (Nat × Value)) (st : List Value) : Prop :=
  match Y with
  | (p, e, R, s, m, args, below, meth, c, Q, A, nL, ce, sl) => ∀ (H : Heap) (locs : List Loc) (ls : Array Slot), va_P G.2.1 vwCl (wd G σ) H → va_D A (wd G σ) → va_S A s.heap H locs → lv_has ls nL lv → W p G.1 e R s m args below meth c H locs ce sl Q (F0 m pc ls st)
def Fx (Y : Dy) (G : G0) (cc : ByteArray) (own : String) (dd : Nat) : Prop :=
  match Y with
  | (p, _, R, s, m, args, _, meth, c, _, A, nL, ce, sl) => p.tables.exec = Jvm.exec ∧ c.code = cc ∧ c.maxLocals = nL ∧ s.vm.findClass own = some m.cls ∧ (∀ w ∈ TB, w.before args s = true) ∧ (∀ w ∈ NB, va_Nw w s) ∧ va_K G.2.1 vwCl (tyz G.2.2.1) s ∧ (∀ q : Nat, s.heap.size ≤ q → A q) ∧ meth.locks = false ∧ (dd ≤ R.frames ∧ 100 * dd ≤ R.locals ∧ ce ≤ R.cells ∧ sl ≤ R.slots) ∧ SZ G.2.2.2.2.2 A s
def jrem (x y : Int32) : Int32 := x - x / y * y
def jleml (x y : Int64) : Int64 := x - x / y * y
def jushr (x y : Int32) : Int32 := (x.toUInt32 >>> (y.toUInt32 &&& Int32.toUInt32 31)).toInt32
section URows
variable {Y : Dy} {G : G0} {cc : ByteArray} {own : String} {dd : Nat} {σ : Mem} {pc : Nat} {lv lv' : List (Nat × Value)} {st : List Value}
theorem u_mem {σ2 : Mem} (h : σ2 = σ) (k : U Y G σ2 pc lv st) : U Y G σ pc lv st := h ▸ k
theorem u_lv (is : List Nat) (h : lv_pick lv is = lv') (k : U Y G σ pc lv' st) : U Y G σ pc lv st := by
  obtain ⟨p, e, R, s, m, args, below, meth, c, Q, A, nL, ce, sl⟩ := Y
  intro H locs ls hP hD hS hl
  exact k H locs ls hP hD hS (lv_sub hl is h)
theorem u_iconst (F : Fx Y G cc own dd) {n : Int} {v : Int32} (d : decode cc pc = .ok (.iconst n, 1))  (hv : Int32.ofInt n = v) (k : U Y G σ (pc + 1) lv (.int v :: st)) : U Y G σ pc lv (st) := by
  obtain ⟨p, e, R, s, m, args, below, meth, c, Q, A, nL, ce, sl⟩ := Y
  obtain ⟨hx, hb, hml, hown, hts, hnb, hK, hA, hlk, hR, hZ⟩ := F
  intro H locs ls hP hD hS hl
  exact lv_iconst hx hb d hv (k H locs ls hP hD hS hl)
theorem u_bipush (F : Fx Y G cc own dd) {n : Int} {v : Int32} (d : decode cc pc = .ok (.bipush n, 2))  (hv : (Int8.ofInt n).toInt32 = v) (k : U Y G σ (pc + 2) lv (.int v :: st)) : U Y G σ pc lv (st) := by
  obtain ⟨p, e, R, s, m, args, below, meth, c, Q, A, nL, ce, sl⟩ := Y
  obtain ⟨hx, hb, hml, hown, hts, hnb, hK, hA, hlk, hR, hZ⟩ := F
  intro H locs ls hP hD hS hl
  exact lv_bipush hx hb d hv (k H locs ls hP hD hS hl)
theorem u_sipush (F : Fx Y G cc own dd) {n : Int} {v : Int32} (d : decode cc pc = .ok (.sipush n, 3))  (hv : (Int16.ofInt n).toInt32 = v) (k : U Y G σ (pc + 3) lv (.int v :: st)) : U Y G σ pc lv (st) := by
  obtain ⟨p, e, R, s, m, args, below, meth, c, Q, A, nL, ce, sl⟩ := Y
  obtain ⟨hx, hb, hml, hown, hts, hnb, hK, hA, hlk, hR, hZ⟩ := F
  intro H locs ls hP hD hS hl
  exact lv_sipush hx hb d hv (k H locs ls hP hD hS hl)
theorem u_ldc (F : Fx Y G cc own dd) {n : Nat} {v : Int32} (d : decode cc pc = .ok (.ldc n, 2))  (hv : Cond.constant own n v ∈ TB) (k : U Y G σ (pc + 2) lv (.int v :: st)) : U Y G σ pc lv (st) := by
  obtain ⟨p, e, R, s, m, args, below, meth, c, Q, A, nL, ce, sl⟩ := Y
  obtain ⟨hx, hb, hml, hown, hts, hnb, hK, hA, hlk, hR, hZ⟩ := F
  intro H locs ls hP hD hS hl
  exact lv_ldc hx hb hown (hts _ hv) d (k H locs ls hP hD hS hl)
theorem u_ldc2 (F : Fx Y G cc own dd) {n : Nat} {v : Int64} (d : decode cc pc = .ok (.ldc2_w n, 3))  (hv : Cond.constantLong own n v ∈ TB) (k : U Y G σ (pc + 3) lv (.long v :: st)) : U Y G σ pc lv (st) := by
  obtain ⟨p, e, R, s, m, args, below, meth, c, Q, A, nL, ce, sl⟩ := Y
  obtain ⟨hx, hb, hml, hown, hts, hnb, hK, hA, hlk, hR, hZ⟩ := F
  intro H locs ls hP hD hS hl
  exact lv_ldc2 hx hb hown (hts _ hv) d (k H locs ls hP hD hS hl)
theorem u_lconst (F : Fx Y G cc own dd) {n : Fin 2} {v : Int64} (d : decode cc pc = .ok (.lconst n, 1))  (hv : Int64.ofNat (n : Nat) = v) (k : U Y G σ (pc + 1) lv (.long v :: st)) : U Y G σ pc lv (st) := by
  obtain ⟨p, e, R, s, m, args, below, meth, c, Q, A, nL, ce, sl⟩ := Y
  obtain ⟨hx, hb, hml, hown, hts, hnb, hK, hA, hlk, hR, hZ⟩ := F
  intro H locs ls hP hD hS hl
  exact lv_lconst hx hb d hv (k H locs ls hP hD hS hl)
theorem u_iload (F : Fx Y G cc own dd) {i : Nat} {x : Int32} (d : decode cc pc = .ok (.iload i, 2)) (q : Nat) (hq : lv[q]? = some (i, .int x)) (k : U Y G σ (pc + 2) lv (.int x :: st)) : U Y G σ pc lv (st) := by
  obtain ⟨p, e, R, s, m, args, below, meth, c, Q, A, nL, ce, sl⟩ := Y
  obtain ⟨hx, hb, hml, hown, hts, hnb, hK, hA, hlk, hR, hZ⟩ := F
  intro H locs ls hP hD hS hl
  exact lv_iload hx hb d (lv_at hl q hq) (k H locs ls hP hD hS hl)
theorem u_iload_n (F : Fx Y G cc own dd) {j : Fin 4} {i : Nat} {x : Int32} (d : decode cc pc = .ok (.iload_n j, 1)) (q : Nat) (hq : lv[q]? = some (i, .int x)) (hj : (j : Nat) = i) (k : U Y G σ (pc + 1) lv (.int x :: st)) : U Y G σ pc lv (st) := by
  obtain ⟨p, e, R, s, m, args, below, meth, c, Q, A, nL, ce, sl⟩ := Y
  obtain ⟨hx, hb, hml, hown, hts, hnb, hK, hA, hlk, hR, hZ⟩ := F
  intro H locs ls hP hD hS hl
  exact lv_iload_n hx hb d hj (lv_at hl q hq) (k H locs ls hP hD hS hl)
theorem u_aload (F : Fx Y G cc own dd) {i : Nat} {x : Nat} (d : decode cc pc = .ok (.aload i, 2)) (q : Nat) (hq : lv[q]? = some (i, .ref x)) (k : U Y G σ (pc + 2) lv (.ref x :: st)) : U Y G σ pc lv (st) := by
  obtain ⟨p, e, R, s, m, args, below, meth, c, Q, A, nL, ce, sl⟩ := Y
  obtain ⟨hx, hb, hml, hown, hts, hnb, hK, hA, hlk, hR, hZ⟩ := F
  intro H locs ls hP hD hS hl
  exact lv_aload hx hb d (lv_at hl q hq) (k H locs ls hP hD hS hl)
theorem u_aload_n (F : Fx Y G cc own dd) {j : Fin 4} {i : Nat} {x : Nat} (d : decode cc pc = .ok (.aload_n j, 1)) (q : Nat) (hq : lv[q]? = some (i, .ref x)) (hj : (j : Nat) = i) (k : U Y G σ (pc + 1) lv (.ref x :: st)) : U Y G σ pc lv (st) := by
  obtain ⟨p, e, R, s, m, args, below, meth, c, Q, A, nL, ce, sl⟩ := Y
  obtain ⟨hx, hb, hml, hown, hts, hnb, hK, hA, hlk, hR, hZ⟩ := F
  intro H locs ls hP hD hS hl
  exact lv_aload_n hx hb d hj (lv_at hl q hq) (k H locs ls hP hD hS hl)
theorem u_lload (F : Fx Y G cc own dd) {i : Nat} {x : Int64} (d : decode cc pc = .ok (.lload i, 2)) (q : Nat) (hq : lv[q]? = some (i, .long x)) (k : U Y G σ (pc + 2) lv (.long x :: st)) : U Y G σ pc lv (st) := by
  obtain ⟨p, e, R, s, m, args, below, meth, c, Q, A, nL, ce, sl⟩ := Y
  obtain ⟨hx, hb, hml, hown, hts, hnb, hK, hA, hlk, hR, hZ⟩ := F
  intro H locs ls hP hD hS hl
  exact lv_lload hx hb d (lv_at hl q hq) (k H locs ls hP hD hS hl)
theorem u_lload_n (F : Fx Y G cc own dd) {j : Fin 4} {i : Nat} {x : Int64} (d : decode cc pc = .ok (.lload_n j, 1)) (q : Nat) (hq : lv[q]? = some (i, .long x)) (hj : (j : Nat) = i) (k : U Y G σ (pc + 1) lv (.long x :: st)) : U Y G σ pc lv (st) := by
  obtain ⟨p, e, R, s, m, args, below, meth, c, Q, A, nL, ce, sl⟩ := Y
  obtain ⟨hx, hb, hml, hown, hts, hnb, hK, hA, hlk, hR, hZ⟩ := F
  intro H locs ls hP hD hS hl
  exact lv_lload_n hx hb d hj (lv_at hl q hq) (k H locs ls hP hD hS hl)
theorem u_istore {nL : Nat} (F : Fx Y G cc own dd) {i : Nat} {x : Int32} (d : decode cc pc = .ok (.istore i, 2)) (hY : Y.2.2.2.2.2.2.2.2.2.2.2.1 = nL) (hn : i < nL) (hlv : (i, Value.int x) :: lv.filter (fun q => !(q.1 == i) && !(q.1 + 1 == i && q.2.category == 2)) = lv') (k : U Y G σ (pc + 2) lv' st) : U Y G σ pc lv (.int x :: st) := by
  subst hY
  obtain ⟨p, e, R, s, m, args, below, meth, c, Q, A, nL, ce, sl⟩ := Y
  obtain ⟨hx, hb, hml, hown, hts, hnb, hK, hA, hlk, hR, hZ⟩ := F
  intro H locs ls hP hD hS hl
  exact lv_istore hx hb d hl hn hlv (fun ls hl => k H locs ls hP hD hS hl)
theorem u_istore_n {nL : Nat} (F : Fx Y G cc own dd) {j : Fin 4} {i : Nat} {x : Int32} (d : decode cc pc = .ok (.istore_n j, 1)) (hj : (j : Nat) = i) (hY : Y.2.2.2.2.2.2.2.2.2.2.2.1 = nL) (hn : i < nL) (hlv : (i, Value.int x) :: lv.filter (fun q => !(q.1 == i) && !(q.1 + 1 == i && q.2.category == 2)) = lv') (k : U Y G σ (pc + 1) lv' st) : U Y G σ pc lv (.int x :: st) := by
  subst hY
  obtain ⟨p, e, R, s, m, args, below, meth, c, Q, A, nL, ce, sl⟩ := Y
  obtain ⟨hx, hb, hml, hown, hts, hnb, hK, hA, hlk, hR, hZ⟩ := F
  intro H locs ls hP hD hS hl
  exact lv_istore_n hx hb d hj hl hn hlv (fun ls hl => k H locs ls hP hD hS hl)
theorem u_astore {nL : Nat} (F : Fx Y G cc own dd) {i : Nat} {x : Nat} (d : decode cc pc = .ok (.astore i, 2)) (hY : Y.2.2.2.2.2.2.2.2.2.2.2.1 = nL) (hn : i < nL) (hlv : (i, Value.ref x) :: lv.filter (fun q => !(q.1 == i) && !(q.1 + 1 == i && q.2.category == 2)) = lv') (k : U Y G σ (pc + 2) lv' st) : U Y G σ pc lv (.ref x :: st) := by
  subst hY
  obtain ⟨p, e, R, s, m, args, below, meth, c, Q, A, nL, ce, sl⟩ := Y
  obtain ⟨hx, hb, hml, hown, hts, hnb, hK, hA, hlk, hR, hZ⟩ := F
  intro H locs ls hP hD hS hl
  exact lv_astore hx hb d hl hn hlv (fun ls hl => k H locs ls hP hD hS hl)
theorem u_astore_n {nL : Nat} (F : Fx Y G cc own dd) {j : Fin 4} {i : Nat} {x : Nat} (d : decode cc pc = .ok (.astore_n j, 1)) (hj : (j : Nat) = i) (hY : Y.2.2.2.2.2.2.2.2.2.2.2.1 = nL) (hn : i < nL) (hlv : (i, Value.ref x) :: lv.filter (fun q => !(q.1 == i) && !(q.1 + 1 == i && q.2.category == 2)) = lv') (k : U Y G σ (pc + 1) lv' st) : U Y G σ pc lv (.ref x :: st) := by
  subst hY
  obtain ⟨p, e, R, s, m, args, below, meth, c, Q, A, nL, ce, sl⟩ := Y
  obtain ⟨hx, hb, hml, hown, hts, hnb, hK, hA, hlk, hR, hZ⟩ := F
  intro H locs ls hP hD hS hl
  exact lv_astore_n hx hb d hj hl hn hlv (fun ls hl => k H locs ls hP hD hS hl)
theorem u_lstore_n {nL : Nat} (F : Fx Y G cc own dd) {j : Fin 4} {i : Nat} {x : Int64} (d : decode cc pc = .ok (.lstore_n j, 1)) (hj : (j : Nat) = i) (hY : Y.2.2.2.2.2.2.2.2.2.2.2.1 = nL) (hn : i + 1 < nL) (hlv : (i, Value.long x) :: lv.filter (fun q => !(q.1 == i) && (!(q.1 == i + 1) && !(q.1 + 1 == i && q.2.category == 2))) = lv') (k : U Y G σ (pc + 1) lv' st) : U Y G σ pc lv (.long x :: st) := by
  subst hY
  obtain ⟨p, e, R, s, m, args, below, meth, c, Q, A, nL, ce, sl⟩ := Y
  obtain ⟨hx, hb, hml, hown, hts, hnb, hK, hA, hlk, hR, hZ⟩ := F
  intro H locs ls hP hD hS hl
  exact lv_lstore_n hx hb d hj hl hn hlv (fun ls hl => k H locs ls hP hD hS hl)
theorem u_iinc {nL : Nat} (F : Fx Y G cc own dd) {i : Nat} {n : Int} {x v : Int32} (d : decode cc pc = .ok (.iinc i n, 3)) (q : Nat) (hq : lv[q]? = some (i, .int x)) (hv : x + Int32.ofInt n = v) (hY : Y.2.2.2.2.2.2.2.2.2.2.2.1 = nL) (hn : i < nL) (hlv : (i, Value.int v) :: lv.filter (fun q => !(q.1 == i) && !(q.1 + 1 == i && q.2.category == 2)) = lv') (k : U Y G σ (pc + 3) lv' st) : U Y G σ pc lv st := by
  subst hY
  obtain ⟨p, e, R, s, m, args, below, meth, c, Q, A, nL, ce, sl⟩ := Y
  obtain ⟨hx, hb, hml, hown, hts, hnb, hK, hA, hlk, hR, hZ⟩ := F
  intro H locs ls hP hD hS hl
  exact lv_iinc hx hb d hl hq hv hn hlv (fun ls hl => k H locs ls hP hD hS hl)
theorem u_iadd (F : Fx Y G cc own dd) {x y : Int32} (d : decode cc pc = .ok (.iadd, 1))  (k : U Y G σ (pc + 1) lv (.int (x + y) :: st)) : U Y G σ pc lv (.int y :: .int x :: st) := by
  obtain ⟨p, e, R, s, m, args, below, meth, c, Q, A, nL, ce, sl⟩ := Y
  obtain ⟨hx, hb, hml, hown, hts, hnb, hK, hA, hlk, hR, hZ⟩ := F
  intro H locs ls hP hD hS hl
  exact lv_iadd hx hb d (k H locs ls hP hD hS hl)
theorem u_isub (F : Fx Y G cc own dd) {x y : Int32} (d : decode cc pc = .ok (.isub, 1))  (k : U Y G σ (pc + 1) lv (.int (x - y) :: st)) : U Y G σ pc lv (.int y :: .int x :: st) := by
  obtain ⟨p, e, R, s, m, args, below, meth, c, Q, A, nL, ce, sl⟩ := Y
  obtain ⟨hx, hb, hml, hown, hts, hnb, hK, hA, hlk, hR, hZ⟩ := F
  intro H locs ls hP hD hS hl
  exact lv_isub hx hb d (k H locs ls hP hD hS hl)
theorem u_imul (F : Fx Y G cc own dd) {x y : Int32} (d : decode cc pc = .ok (.imul, 1))  (k : U Y G σ (pc + 1) lv (.int (x * y) :: st)) : U Y G σ pc lv (.int y :: .int x :: st) := by
  obtain ⟨p, e, R, s, m, args, below, meth, c, Q, A, nL, ce, sl⟩ := Y
  obtain ⟨hx, hb, hml, hown, hts, hnb, hK, hA, hlk, hR, hZ⟩ := F
  intro H locs ls hP hD hS hl
  exact lv_imul hx hb d (k H locs ls hP hD hS hl)
theorem u_iand (F : Fx Y G cc own dd) {x y : Int32} (d : decode cc pc = .ok (.iand, 1))  (k : U Y G σ (pc + 1) lv (.int (x &&& y) :: st)) : U Y G σ pc lv (.int y :: .int x :: st) := by
  obtain ⟨p, e, R, s, m, args, below, meth, c, Q, A, nL, ce, sl⟩ := Y
  obtain ⟨hx, hb, hml, hown, hts, hnb, hK, hA, hlk, hR, hZ⟩ := F
  intro H locs ls hP hD hS hl
  exact lv_iand hx hb d (k H locs ls hP hD hS hl)
theorem u_ior (F : Fx Y G cc own dd) {x y : Int32} (d : decode cc pc = .ok (.ior, 1))  (k : U Y G σ (pc + 1) lv (.int (x ||| y) :: st)) : U Y G σ pc lv (.int y :: .int x :: st) := by
  obtain ⟨p, e, R, s, m, args, below, meth, c, Q, A, nL, ce, sl⟩ := Y
  obtain ⟨hx, hb, hml, hown, hts, hnb, hK, hA, hlk, hR, hZ⟩ := F
  intro H locs ls hP hD hS hl
  exact lv_ior hx hb d (k H locs ls hP hD hS hl)
theorem u_ixor (F : Fx Y G cc own dd) {x y : Int32} (d : decode cc pc = .ok (.ixor, 1))  (k : U Y G σ (pc + 1) lv (.int (x ^^^ y) :: st)) : U Y G σ pc lv (.int y :: .int x :: st) := by
  obtain ⟨p, e, R, s, m, args, below, meth, c, Q, A, nL, ce, sl⟩ := Y
  obtain ⟨hx, hb, hml, hown, hts, hnb, hK, hA, hlk, hR, hZ⟩ := F
  intro H locs ls hP hD hS hl
  exact lv_ixor hx hb d (k H locs ls hP hD hS hl)
theorem u_ishl (F : Fx Y G cc own dd) {x y : Int32} (d : decode cc pc = .ok (.ishl, 1))  (k : U Y G σ (pc + 1) lv (.int (x <<< (y &&& 31)) :: st)) : U Y G σ pc lv (.int y :: .int x :: st) := by
  obtain ⟨p, e, R, s, m, args, below, meth, c, Q, A, nL, ce, sl⟩ := Y
  obtain ⟨hx, hb, hml, hown, hts, hnb, hK, hA, hlk, hR, hZ⟩ := F
  intro H locs ls hP hD hS hl
  exact lv_ishl hx hb d (k H locs ls hP hD hS hl)
theorem u_ishr (F : Fx Y G cc own dd) {x y : Int32} (d : decode cc pc = .ok (.ishr, 1))  (k : U Y G σ (pc + 1) lv (.int (x >>> (y &&& 31)) :: st)) : U Y G σ pc lv (.int y :: .int x :: st) := by
  obtain ⟨p, e, R, s, m, args, below, meth, c, Q, A, nL, ce, sl⟩ := Y
  obtain ⟨hx, hb, hml, hown, hts, hnb, hK, hA, hlk, hR, hZ⟩ := F
  intro H locs ls hP hD hS hl
  exact lv_ishr hx hb d (k H locs ls hP hD hS hl)
theorem u_idiv (F : Fx Y G cc own dd) {x y : Int32} (d : decode cc pc = .ok (.idiv, 1)) (hne : ¬ y = 0) (k : U Y G σ (pc + 1) lv (.int (x / y) :: st)) : U Y G σ pc lv (.int y :: .int x :: st) := by
  obtain ⟨p, e, R, s, m, args, below, meth, c, Q, A, nL, ce, sl⟩ := Y
  obtain ⟨hx, hb, hml, hown, hts, hnb, hK, hA, hlk, hR, hZ⟩ := F
  intro H locs ls hP hD hS hl
  exact lv_idiv hx hb d hne (k H locs ls hP hD hS hl)
theorem u_irem (F : Fx Y G cc own dd) {x y : Int32} (d : decode cc pc = .ok (.irem, 1)) (hne : ¬ y = 0) (k : U Y G σ (pc + 1) lv (.int (jrem x y) :: st)) : U Y G σ pc lv (.int y :: .int x :: st) := by
  obtain ⟨p, e, R, s, m, args, below, meth, c, Q, A, nL, ce, sl⟩ := Y
  obtain ⟨hx, hb, hml, hown, hts, hnb, hK, hA, hlk, hR, hZ⟩ := F
  intro H locs ls hP hD hS hl
  exact lv_irem hx hb d hne (k H locs ls hP hD hS hl)
theorem u_iushr (F : Fx Y G cc own dd) {x y : Int32} (d : decode cc pc = .ok (.iushr, 1))  (k : U Y G σ (pc + 1) lv (.int (jushr x y) :: st)) : U Y G σ pc lv (.int y :: .int x :: st) := by
  obtain ⟨p, e, R, s, m, args, below, meth, c, Q, A, nL, ce, sl⟩ := Y
  obtain ⟨hx, hb, hml, hown, hts, hnb, hK, hA, hlk, hR, hZ⟩ := F
  intro H locs ls hP hD hS hl
  exact lv_iushr hx hb d rfl (k H locs ls hP hD hS hl)
theorem u_i2l (F : Fx Y G cc own dd) {x : Int32} (d : decode cc pc = .ok (.i2l, 1))  (k : U Y G σ (pc + 1) lv (.long x.toInt64 :: st)) : U Y G σ pc lv (.int x :: st) := by
  obtain ⟨p, e, R, s, m, args, below, meth, c, Q, A, nL, ce, sl⟩ := Y
  obtain ⟨hx, hb, hml, hown, hts, hnb, hK, hA, hlk, hR, hZ⟩ := F
  intro H locs ls hP hD hS hl
  exact lv_i2l hx hb d rfl (k H locs ls hP hD hS hl)
theorem u_l2i (F : Fx Y G cc own dd) {x : Int64} (d : decode cc pc = .ok (.l2i, 1))  (k : U Y G σ (pc + 1) lv (.int x.toInt32 :: st)) : U Y G σ pc lv (.long x :: st) := by
  obtain ⟨p, e, R, s, m, args, below, meth, c, Q, A, nL, ce, sl⟩ := Y
  obtain ⟨hx, hb, hml, hown, hts, hnb, hK, hA, hlk, hR, hZ⟩ := F
  intro H locs ls hP hD hS hl
  exact lv_l2i hx hb d rfl (k H locs ls hP hD hS hl)
theorem u_ladd (F : Fx Y G cc own dd) {x y : Int64} (d : decode cc pc = .ok (.ladd, 1))  (k : U Y G σ (pc + 1) lv (.long (x + y) :: st)) : U Y G σ pc lv (.long y :: .long x :: st) := by
  obtain ⟨p, e, R, s, m, args, below, meth, c, Q, A, nL, ce, sl⟩ := Y
  obtain ⟨hx, hb, hml, hown, hts, hnb, hK, hA, hlk, hR, hZ⟩ := F
  intro H locs ls hP hD hS hl
  exact lv_ladd hx hb d (k H locs ls hP hD hS hl)
theorem u_lmul (F : Fx Y G cc own dd) {x y : Int64} (d : decode cc pc = .ok (.lmul, 1))  (k : U Y G σ (pc + 1) lv (.long (x * y) :: st)) : U Y G σ pc lv (.long y :: .long x :: st) := by
  obtain ⟨p, e, R, s, m, args, below, meth, c, Q, A, nL, ce, sl⟩ := Y
  obtain ⟨hx, hb, hml, hown, hts, hnb, hK, hA, hlk, hR, hZ⟩ := F
  intro H locs ls hP hD hS hl
  exact lv_lmul hx hb d (k H locs ls hP hD hS hl)
theorem u_land (F : Fx Y G cc own dd) {x y : Int64} (d : decode cc pc = .ok (.land, 1))  (k : U Y G σ (pc + 1) lv (.long (x &&& y) :: st)) : U Y G σ pc lv (.long y :: .long x :: st) := by
  obtain ⟨p, e, R, s, m, args, below, meth, c, Q, A, nL, ce, sl⟩ := Y
  obtain ⟨hx, hb, hml, hown, hts, hnb, hK, hA, hlk, hR, hZ⟩ := F
  intro H locs ls hP hD hS hl
  exact lv_land hx hb d (k H locs ls hP hD hS hl)
theorem u_ldiv (F : Fx Y G cc own dd) {x y : Int64} (d : decode cc pc = .ok (.ldiv, 1)) (hne : ¬ y = 0) (k : U Y G σ (pc + 1) lv (.long (x / y) :: st)) : U Y G σ pc lv (.long y :: .long x :: st) := by
  obtain ⟨p, e, R, s, m, args, below, meth, c, Q, A, nL, ce, sl⟩ := Y
  obtain ⟨hx, hb, hml, hown, hts, hnb, hK, hA, hlk, hR, hZ⟩ := F
  intro H locs ls hP hD hS hl
  exact lv_ldiv hx hb d hne (k H locs ls hP hD hS hl)
theorem u_lrem (F : Fx Y G cc own dd) {x y : Int64} (d : decode cc pc = .ok (.lrem, 1)) (hne : ¬ y = 0) (k : U Y G σ (pc + 1) lv (.long (jleml x y) :: st)) : U Y G σ pc lv (.long y :: .long x :: st) := by
  obtain ⟨p, e, R, s, m, args, below, meth, c, Q, A, nL, ce, sl⟩ := Y
  obtain ⟨hx, hb, hml, hown, hts, hnb, hK, hA, hlk, hR, hZ⟩ := F
  intro H locs ls hP hD hS hl
  exact lv_lrem hx hb d hne (k H locs ls hP hD hS hl)
theorem u_lcmp (F : Fx Y G cc own dd) {x y : Int64} (d : decode cc pc = .ok (.lcmp, 1))  (k : U Y G σ (pc + 1) lv (.int (lg_cmp x y) :: st)) : U Y G σ pc lv (.long y :: .long x :: st) := by
  obtain ⟨p, e, R, s, m, args, below, meth, c, Q, A, nL, ce, sl⟩ := Y
  obtain ⟨hx, hb, hml, hown, hts, hnb, hK, hA, hlk, hR, hZ⟩ := F
  intro H locs ls hP hD hS hl
  exact W.lcmp hx hb d (k H locs ls hP hD hS hl)
theorem u_dup (F : Fx Y G cc own dd) {va : Value} (d : decode cc pc = .ok (.dup, 1)) (hva : va.category = 1) (k : U Y G σ (pc + 1) lv (va :: va :: st)) : U Y G σ pc lv (va :: st) := by
  obtain ⟨p, e, R, s, m, args, below, meth, c, Q, A, nL, ce, sl⟩ := Y
  obtain ⟨hx, hb, hml, hown, hts, hnb, hK, hA, hlk, hR, hZ⟩ := F
  intro H locs ls hP hD hS hl
  exact lv_dup hx hb d hva (k H locs ls hP hD hS hl)
theorem u_dup2 (F : Fx Y G cc own dd) {va vb : Value} (d : decode cc pc = .ok (.dup2, 1)) (hva : va.category = 1) (hvb : vb.category = 1) (k : U Y G σ (pc + 1) lv (va :: vb :: va :: vb :: st)) : U Y G σ pc lv (va :: vb :: st) := by
  obtain ⟨p, e, R, s, m, args, below, meth, c, Q, A, nL, ce, sl⟩ := Y
  obtain ⟨hx, hb, hml, hown, hts, hnb, hK, hA, hlk, hR, hZ⟩ := F
  intro H locs ls hP hD hS hl
  exact lv_dup2_11 hx hb d hva hvb (k H locs ls hP hD hS hl)
theorem u_pop (F : Fx Y G cc own dd) {va : Value} (d : decode cc pc = .ok (.pop, 1)) (hva : va.category = 1) (k : U Y G σ (pc + 1) lv (st)) : U Y G σ pc lv (va :: st) := by
  obtain ⟨p, e, R, s, m, args, below, meth, c, Q, A, nL, ce, sl⟩ := Y
  obtain ⟨hx, hb, hml, hown, hts, hnb, hK, hA, hlk, hR, hZ⟩ := F
  intro H locs ls hP hD hS hl
  exact lv_pop hx hb d hva (k H locs ls hP hD hS hl)
theorem u_goto (F : Fx Y G cc own dd) {off : Int} (tgt : Nat) (d : decode cc pc = .ok (.goto off, 3)) (ht : (pc : Int) + off = (tgt : Int)) (k : U Y G σ tgt lv st) : U Y G σ pc lv st := by
  obtain ⟨p, e, R, s, m, args, below, meth, c, Q, A, nL, ce, sl⟩ := Y
  obtain ⟨hx, hb, hml, hown, hts, hnb, hK, hA, hlk, hR, hZ⟩ := F
  intro H locs ls hP hD hS hl
  exact lv_goto hx hb d ht (k H locs ls hP hD hS hl)
theorem u_icmp_eq (F : Fx Y G cc own dd) {x y : Int32} {off : Int} (tgt : Nat) (d : decode cc pc = .ok (.if_icmp .eq off, 3)) (ht : (pc : Int) + off = (tgt : Int)) (kt : x = y → U Y G σ tgt lv st) (kf : ¬ (x = y) → U Y G σ (pc + 3) lv st) : U Y G σ pc lv (.int y :: .int x :: st) := by
  obtain ⟨p, e, R, s, m, args, below, meth, c, Q, A, nL, ce, sl⟩ := Y
  obtain ⟨hx, hb, hml, hown, hts, hnb, hK, hA, hlk, hR, hZ⟩ := F
  intro H locs ls hP hD hS hl
  exact lv_icmp_eq hx hb d ht (fun h => kt (h) H locs ls hP hD hS hl) (fun h => kf (h) H locs ls hP hD hS hl)
theorem u_icmp_ne (F : Fx Y G cc own dd) {x y : Int32} {off : Int} (tgt : Nat) (d : decode cc pc = .ok (.if_icmp .ne off, 3)) (ht : (pc : Int) + off = (tgt : Int)) (kt : ¬ (x = y) → U Y G σ tgt lv st) (kf : x = y → U Y G σ (pc + 3) lv st) : U Y G σ pc lv (.int y :: .int x :: st) := by
  obtain ⟨p, e, R, s, m, args, below, meth, c, Q, A, nL, ce, sl⟩ := Y
  obtain ⟨hx, hb, hml, hown, hts, hnb, hK, hA, hlk, hR, hZ⟩ := F
  intro H locs ls hP hD hS hl
  exact lv_icmp_ne hx hb d ht (fun h => kt (h) H locs ls hP hD hS hl) (fun h => kf (h) H locs ls hP hD hS hl)
theorem u_icmp_lt (F : Fx Y G cc own dd) {x y : Int32} {off : Int} (tgt : Nat) (d : decode cc pc = .ok (.if_icmp .lt off, 3)) (ht : (pc : Int) + off = (tgt : Int)) (kt : x < y → U Y G σ tgt lv st) (kf : ¬ (x < y) → U Y G σ (pc + 3) lv st) : U Y G σ pc lv (.int y :: .int x :: st) := by
  obtain ⟨p, e, R, s, m, args, below, meth, c, Q, A, nL, ce, sl⟩ := Y
  obtain ⟨hx, hb, hml, hown, hts, hnb, hK, hA, hlk, hR, hZ⟩ := F
  intro H locs ls hP hD hS hl
  exact lv_icmp_lt hx hb d ht (fun h => kt (h) H locs ls hP hD hS hl) (fun h => kf (h) H locs ls hP hD hS hl)
theorem u_icmp_ge (F : Fx Y G cc own dd) {x y : Int32} {off : Int} (tgt : Nat) (d : decode cc pc = .ok (.if_icmp .ge off, 3)) (ht : (pc : Int) + off = (tgt : Int)) (kt : ¬ (x < y) → U Y G σ tgt lv st) (kf : x < y → U Y G σ (pc + 3) lv st) : U Y G σ pc lv (.int y :: .int x :: st) := by
  obtain ⟨p, e, R, s, m, args, below, meth, c, Q, A, nL, ce, sl⟩ := Y
  obtain ⟨hx, hb, hml, hown, hts, hnb, hK, hA, hlk, hR, hZ⟩ := F
  intro H locs ls hP hD hS hl
  exact lv_icmp_ge hx hb d ht (fun h => kt (Int32.not_lt.mpr h) H locs ls hP hD hS hl) (fun h => kf (Int32.not_le.mp h) H locs ls hP hD hS hl)
theorem u_icmp_le (F : Fx Y G cc own dd) {x y : Int32} {off : Int} (tgt : Nat) (d : decode cc pc = .ok (.if_icmp .le off, 3)) (ht : (pc : Int) + off = (tgt : Int)) (kt : x ≤ y → U Y G σ tgt lv st) (kf : ¬ (x ≤ y) → U Y G σ (pc + 3) lv st) : U Y G σ pc lv (.int y :: .int x :: st) := by
  obtain ⟨p, e, R, s, m, args, below, meth, c, Q, A, nL, ce, sl⟩ := Y
  obtain ⟨hx, hb, hml, hown, hts, hnb, hK, hA, hlk, hR, hZ⟩ := F
  intro H locs ls hP hD hS hl
  exact lv_icmp_le hx hb d ht (fun h => kt (h) H locs ls hP hD hS hl) (fun h => kf (h) H locs ls hP hD hS hl)
theorem u_icmp_gt (F : Fx Y G cc own dd) {x y : Int32} {off : Int} (tgt : Nat) (d : decode cc pc = .ok (.if_icmp .gt off, 3)) (ht : (pc : Int) + off = (tgt : Int)) (kt : ¬ (x ≤ y) → U Y G σ tgt lv st) (kf : x ≤ y → U Y G σ (pc + 3) lv st) : U Y G σ pc lv (.int y :: .int x :: st) := by
  obtain ⟨p, e, R, s, m, args, below, meth, c, Q, A, nL, ce, sl⟩ := Y
  obtain ⟨hx, hb, hml, hown, hts, hnb, hK, hA, hlk, hR, hZ⟩ := F
  intro H locs ls hP hD hS hl
  exact lv_icmp_gt hx hb d ht (fun h => kt (Int32.not_le.mpr h) H locs ls hP hD hS hl) (fun h => kf (Int32.not_lt.mp h) H locs ls hP hD hS hl)
theorem u_if_eq (F : Fx Y G cc own dd) {x : Int32} {off : Int} (tgt : Nat) (d : decode cc pc = .ok (.ifCond .eq off, 3)) (ht : (pc : Int) + off = (tgt : Int)) (kt : x = 0 → U Y G σ tgt lv st) (kf : ¬ (x = 0) → U Y G σ (pc + 3) lv st) : U Y G σ pc lv (.int x :: st) := by
  obtain ⟨p, e, R, s, m, args, below, meth, c, Q, A, nL, ce, sl⟩ := Y
  obtain ⟨hx, hb, hml, hown, hts, hnb, hK, hA, hlk, hR, hZ⟩ := F
  intro H locs ls hP hD hS hl
  exact lv_if_eq hx hb d ht (fun h => kt (h) H locs ls hP hD hS hl) (fun h => kf (h) H locs ls hP hD hS hl)
theorem u_if_ne (F : Fx Y G cc own dd) {x : Int32} {off : Int} (tgt : Nat) (d : decode cc pc = .ok (.ifCond .ne off, 3)) (ht : (pc : Int) + off = (tgt : Int)) (kt : ¬ (x = 0) → U Y G σ tgt lv st) (kf : x = 0 → U Y G σ (pc + 3) lv st) : U Y G σ pc lv (.int x :: st) := by
  obtain ⟨p, e, R, s, m, args, below, meth, c, Q, A, nL, ce, sl⟩ := Y
  obtain ⟨hx, hb, hml, hown, hts, hnb, hK, hA, hlk, hR, hZ⟩ := F
  intro H locs ls hP hD hS hl
  exact lv_if_ne hx hb d ht (fun h => kt (h) H locs ls hP hD hS hl) (fun h => kf (h) H locs ls hP hD hS hl)
theorem u_if_lt (F : Fx Y G cc own dd) {x : Int32} {off : Int} (tgt : Nat) (d : decode cc pc = .ok (.ifCond .lt off, 3)) (ht : (pc : Int) + off = (tgt : Int)) (kt : x < 0 → U Y G σ tgt lv st) (kf : ¬ (x < 0) → U Y G σ (pc + 3) lv st) : U Y G σ pc lv (.int x :: st) := by
  obtain ⟨p, e, R, s, m, args, below, meth, c, Q, A, nL, ce, sl⟩ := Y
  obtain ⟨hx, hb, hml, hown, hts, hnb, hK, hA, hlk, hR, hZ⟩ := F
  intro H locs ls hP hD hS hl
  exact lv_if_lt hx hb d ht (fun h => kt (h) H locs ls hP hD hS hl) (fun h => kf (h) H locs ls hP hD hS hl)
theorem u_if_ge (F : Fx Y G cc own dd) {x : Int32} {off : Int} (tgt : Nat) (d : decode cc pc = .ok (.ifCond .ge off, 3)) (ht : (pc : Int) + off = (tgt : Int)) (kt : ¬ (x < 0) → U Y G σ tgt lv st) (kf : x < 0 → U Y G σ (pc + 3) lv st) : U Y G σ pc lv (.int x :: st) := by
  obtain ⟨p, e, R, s, m, args, below, meth, c, Q, A, nL, ce, sl⟩ := Y
  obtain ⟨hx, hb, hml, hown, hts, hnb, hK, hA, hlk, hR, hZ⟩ := F
  intro H locs ls hP hD hS hl
  exact lv_if_ge hx hb d ht (fun h => kt (Int32.not_lt.mpr h) H locs ls hP hD hS hl) (fun h => kf (Int32.not_le.mp h) H locs ls hP hD hS hl)
theorem u_if_le (F : Fx Y G cc own dd) {x : Int32} {off : Int} (tgt : Nat) (d : decode cc pc = .ok (.ifCond .le off, 3)) (ht : (pc : Int) + off = (tgt : Int)) (kt : x ≤ 0 → U Y G σ tgt lv st) (kf : ¬ (x ≤ 0) → U Y G σ (pc + 3) lv st) : U Y G σ pc lv (.int x :: st) := by
  obtain ⟨p, e, R, s, m, args, below, meth, c, Q, A, nL, ce, sl⟩ := Y
  obtain ⟨hx, hb, hml, hown, hts, hnb, hK, hA, hlk, hR, hZ⟩ := F
  intro H locs ls hP hD hS hl
  exact lv_if_le hx hb d ht (fun h => kt (h) H locs ls hP hD hS hl) (fun h => kf (h) H locs ls hP hD hS hl)
theorem u_if_gt (F : Fx Y G cc own dd) {x : Int32} {off : Int} (tgt : Nat) (d : decode cc pc = .ok (.ifCond .gt off, 3)) (ht : (pc : Int) + off = (tgt : Int)) (kt : ¬ (x ≤ 0) → U Y G σ tgt lv st) (kf : x ≤ 0 → U Y G σ (pc + 3) lv st) : U Y G σ pc lv (.int x :: st) := by
  obtain ⟨p, e, R, s, m, args, below, meth, c, Q, A, nL, ce, sl⟩ := Y
  obtain ⟨hx, hb, hml, hown, hts, hnb, hK, hA, hlk, hR, hZ⟩ := F
  intro H locs ls hP hD hS hl
  exact lv_if_gt hx hb d ht (fun h => kt (Int32.not_le.mpr h) H locs ls hP hD hS hl) (fun h => kf (Int32.not_lt.mp h) H locs ls hP hD hS hl)
theorem u_table (F : Fx Y G cc own dd) {dflt lo hi : Int} {offs : Array Int} {len : Nat} {x : Int32} {off : Int} (d : decode cc pc = .ok (.tableswitch dflt lo hi offs, len)) (tgt : Nat) (h1 : ¬ x.toInt < lo) (h2 : ¬ hi < x.toInt) (ho : offs[(x.toInt - lo).toNat]? = some off) (ht : (pc : Int) + off = (tgt : Int)) (k : U Y G σ tgt lv st) : U Y G σ pc lv (.int x :: st) := by
  obtain ⟨p, e, R, s, m, args, below, meth, c, Q, A, nL, ce, sl⟩ := Y
  obtain ⟨hx, hb, hml, hown, hts, hnb, hK, hA, hlk, hR, hZ⟩ := F
  intro H locs ls hP hD hS hl
  exact lv_tableIn hx hb d h1 h2 ho ht (k H locs ls hP hD hS hl)
theorem u_tableOut (F : Fx Y G cc own dd) {dflt lo hi : Int} {offs : Array Int} {len : Nat} {x : Int32} (d : decode cc pc = .ok (.tableswitch dflt lo hi offs, len)) (tgt : Nat) (h : x.toInt < lo ∨ hi < x.toInt) (ht : (pc : Int) + dflt = (tgt : Int)) (k : U Y G σ tgt lv st) : U Y G σ pc lv (.int x :: st) := by
  obtain ⟨p, e, R, s, m, args, below, meth, c, Q, A, nL, ce, sl⟩ := Y
  obtain ⟨hx, hb, hml, hown, hts, hnb, hK, hA, hlk, hR, hZ⟩ := F
  intro H locs ls hP hD hS hl
  exact lv_tableOut hx hb d h ht (k H locs ls hP hD hS hl)
theorem u_getV (F : Fx Y G cc own dd) {idx t i : Nat} {k : Nat} (d : decode cc pc = .ok (.getfield idx, 3)) (hq : (t, k, 0) ∈ cel G) (hC : CK t) (hf : FL own idx t i) (hi : i < nf t) (kk : U Y G σ (pc + 3) lv (fv G.2.2.2.2.1 σ t k i :: st)) : U Y G σ pc lv (.ref (adr G (t, k, 0)) :: st) := by
  obtain ⟨p, e, R, s, m, args, below, meth, c, Q, A, nL, ce, sl⟩ := Y
  obtain ⟨hx, hb, hml, hown, hts, hnb, hK, hA, hlk, hR, hZ⟩ := F
  intro H locs ls hP hD hS hl
  obtain ⟨q0, he, hL⟩ := wl_get (ad := G.2.2.2.2.1) (E := Ev G.2.2.2.2.1 G.2.2.1 σ) hq
  obtain ⟨C, T, N, ty, h1, h2, h3, h4, h5, h6⟩ := hC
  subst h2
  have hv : ((List.range (nf t)).map (fv G.2.2.2.2.1 σ t k))[i]? = some (fv G.2.2.2.2.1 σ t k i) := by simp [hi]
  have k2 := kk H locs ls hP hD hS hl
  unfold FL at hf
  rw [← h6] at hf
  rcases hf with hf | ⟨host, hf⟩
  · exact va_get hx hb hts h3 hown hK hP q0 he h1 i hi (hts _ hf) (fun _ h9 => h9) hv d k2
  · exact va_getN hx hb hts h3 hown hK hP q0 he h1 i hi (va_Nw.use rfl (hnb _ hf)) (fun _ h9 => h9) hv d k2
theorem u_get (F : Fx Y G cc own dd) {idx t i : Nat} {k n : Nat} {v : Int32} (d : decode cc pc = .ok (.getfield idx, 3)) (hq : (t, k, 0) ∈ cel G) (hC : CK t) (hf : FL own idx t i) (hk : fk t i = (0, n)) (hi : i < nf t) (hv : σ t k 0 i = v) (kk : U Y G σ (pc + 3) lv (.int v :: st)) : U Y G σ pc lv (.ref (adr G (t, k, 0)) :: st) :=
  u_getV F d hq hC hf hi (by rw [show fv G.2.2.2.2.1 σ t k i = .int v by simp [fv, hk, hv]]; exact kk)
theorem u_getO (F : Fx Y G cc own dd) {idx t i : Nat} {k n : Nat} {q : Key} (d : decode cc pc = .ok (.getfield idx, 3)) (hq : (t, k, 0) ∈ cel G) (hC : CK t) (hf : FL own idx t i) (hk : fk t i = (4, n)) (hi : i < nf t) (hv : fo t i = q) (kk : U Y G σ (pc + 3) lv (.ref (adr G q) :: st)) : U Y G σ pc lv (.ref (adr G (t, k, 0)) :: st) :=
  u_getV F d hq hC hf hi (by rw [show fv G.2.2.2.2.1 σ t k i = .ref (adr G q) by simp [fv, hk, hv, adr]]; exact kk)
theorem u_getA (F : Fx Y G cc own dd) {idx t i : Nat} {k a n : Nat} (d : decode cc pc = .ok (.getfield idx, 3)) (hq : (t, k, 0) ∈ cel G) (hC : CK t) (hf : FL own idx t i) (hk : fk t i = (a + 1, n)) (ha : a < 3) (hi : i < nf t) (kk : U Y G σ (pc + 3) lv (.ref (adr G (t, k, i + 1)) :: st)) : U Y G σ pc lv (.ref (adr G (t, k, 0)) :: st) :=
  u_getV F d hq hC hf hi (by
    rw [show fv G.2.2.2.2.1 σ t k i = .ref (adr G (t, k, i + 1)) by
      unfold fv
      rw [hk]
      rcases (show a = 0 ∨ a = 1 ∨ a = 2 by omega) with rfl | rfl | rfl <;> rfl]
    exact kk)
theorem u_put (F : Fx Y G cc own dd) {idx t i : Nat} {k n : Nat} {v : Int32} {ty0 : FieldType} (d : decode cc pc = .ok (.putfield idx, 3)) (hq : (t, k, 0) ∈ cel G) (hC : CK t) (hf : FL own idx t i) (hk : fk t i = (0, n)) (hi : i < nf t) (hfin : (fT t i).2.2.2 = false) (hty : parseFieldDescriptor (fT t i).2.2.1 = some ty0) (hn : narrow ty0 (.int v) = .int v) (hfit : fits ty0 (.int v) = true) (kk : U Y G (upM σ t k (wr (σ t k) 0 i v)) (pc + 3) lv st) : U Y G σ pc lv (.int v :: .ref (adr G (t, k, 0)) :: st) := by
  obtain ⟨p, e, R, s, m, args, below, meth, c, Q, A, nL, ce, sl⟩ := Y
  obtain ⟨hx, hb, hml, hown, hts, hnb, hK, hA, hlk, hR, hZ⟩ := F
  intro H locs ls hP hD hS hl
  obtain ⟨q0, he, hL⟩ := wl_get (ad := G.2.2.2.2.1) (E := Ev G.2.2.2.2.1 G.2.2.1 σ) hq
  obtain ⟨C, T, N, ty, h1, h2, h3, h4, h5, h6⟩ := hC
  subst h2
  unfold FL at hf
  rw [← h6] at hf hfin hty
  have hln : i < ((List.range (nf t)).map (fv G.2.2.2.2.1 σ t k)).length := by simp [hi]
  have hset : (wd G σ).set q0 (G.2.2.2.2.1 (t, k, 0), .inr (t, ((List.range (nf t)).map (fv G.2.2.2.2.1 σ t k)).set i (.int v))) = wd G (upM σ t k (wr (σ t k) 0 i v)) := by
    rw [← Ev_num (ad := G.2.2.2.2.1) (cy := G.2.2.1) (by rw [hk])]
    exact wl_set hD hL (fun q' h => by rw [wr_wa]; exact Ev_ne q' h)
  have k2 : ∀ (H1 : Heap) (locs1 : List Loc), va_P G.2.1 vwCl ((wd G σ).set q0 (G.2.2.2.2.1 (t, k, 0), .inr (t, ((List.range (nf t)).map (fv G.2.2.2.2.1 σ t k)).set i (.int v)))) H1 → va_D A ((wd G σ).set q0 (G.2.2.2.2.1 (t, k, 0), .inr (t, ((List.range (nf t)).map (fv G.2.2.2.2.1 σ t k)).set i (.int v)))) → va_S A s.heap H1 locs1 → W p G.1 e R s m args below meth c H1 locs1 ce sl Q (F0 m (pc + 3) ls st) := by
    intro H1 locs1 a1 a2 a3
    rw [hset] at a1 a2
    exact kk H1 locs1 ls a1 a2 a3 hl
  rcases hf with hf | ⟨host, hf⟩
  · exact va_put hx hb hts h3 ty h4 h5 hown hK hP hD hS q0 he h1 i hi (hts _ hf) (fun _ h9 => h9) hfin hty hn hfit hln d k2
  · exact va_putN hx hb hts h3 ty h4 h5 hown hK hP hD hS q0 he h1 i hi (va_Nw.use rfl (hnb _ hf)) (fun _ h9 => h9) hfin hty hn hfit hln d k2
theorem u_aldI (F : Fx Y G cc own dd) {t i k n : Nat} {x v : Int32} (d : decode cc pc = .ok (.iaload, 1)) (hq : (t, k, i + 1) ∈ cel G) (hk : fk t i = (1, n)) (hin : vp_in x n) (hv : σ t k (i + 1) x.toNatClampNeg = v) (kk : U Y G σ (pc + 1) lv (.int v :: st)) : U Y G σ pc lv (.int x :: .ref (adr G (t, k, i + 1)) :: st) := by
  obtain ⟨p, e, R, s, m, args, below, meth, c, Q, A, nL, ce, sl⟩ := Y
  obtain ⟨hx, hb, hml, hown, hts, hnb, hK, hA, hlk, hR, hZ⟩ := F
  intro H locs ls hP hD hS hl
  obtain ⟨q0, he, hL⟩ := wl_get (ad := G.2.2.2.2.1) (E := Ev G.2.2.2.2.1 G.2.2.1 σ) hq
  rw [show Ev G.2.2.2.2.1 G.2.2.1 σ (t, k, i + 1) = .inl (G.2.2.1 0, n, .inl (σ t k (i + 1))) by simp [Ev, hk]] at he
  have k2 := kk H locs ls hP hD hS hl
  rw [← hv] at k2
  exact va_iald hx hb hK hP q0 0 he rfl hin d k2
theorem u_aldZ (F : Fx Y G cc own dd) {t i k n : Nat} {x v : Int32} (d : decode cc pc = .ok (.baload, 1)) (hq : (t, k, i + 1) ∈ cel G) (hk : fk t i = (2, n)) (hin : vp_in x n) (hv : σ t k (i + 1) x.toNatClampNeg = v) (kk : U Y G σ (pc + 1) lv (.int v :: st)) : U Y G σ pc lv (.int x :: .ref (adr G (t, k, i + 1)) :: st) := by
  obtain ⟨p, e, R, s, m, args, below, meth, c, Q, A, nL, ce, sl⟩ := Y
  obtain ⟨hx, hb, hml, hown, hts, hnb, hK, hA, hlk, hR, hZ⟩ := F
  intro H locs ls hP hD hS hl
  obtain ⟨q0, he, hL⟩ := wl_get (ad := G.2.2.2.2.1) (E := Ev G.2.2.2.2.1 G.2.2.1 σ) hq
  rw [show Ev G.2.2.2.2.1 G.2.2.1 σ (t, k, i + 1) = .inl (G.2.2.1 1, n, .inl (σ t k (i + 1))) by simp [Ev, hk]] at he
  have k2 := kk H locs ls hP hD hS hl
  rw [← hv] at k2
  exact va_zald hx hb hK hP q0 1 he rfl hin d k2
theorem u_astI (F : Fx Y G cc own dd) {t i k n : Nat} {x v v2 : Int32} (d : decode cc pc = .ok (.iastore, 1)) (hq : (t, k, i + 1) ∈ cel G) (hk : fk t i = (1, n)) (hin : vp_in x n) (hv : v = v2) (kk : U Y G (upM σ t k (wr (σ t k) (i + 1) x.toNatClampNeg v2)) (pc + 1) lv st) : U Y G σ pc lv (.int v :: .int x :: .ref (adr G (t, k, i + 1)) :: st) := by
  subst hv
  obtain ⟨p, e, R, s, m, args, below, meth, c, Q, A, nL, ce, sl⟩ := Y
  obtain ⟨hx, hb, hml, hown, hts, hnb, hK, hA, hlk, hR, hZ⟩ := F
  intro H locs ls hP hD hS hl
  obtain ⟨q0, he, hL⟩ := wl_get (ad := G.2.2.2.2.1) (E := Ev G.2.2.2.2.1 G.2.2.1 σ) hq
  rw [show Ev G.2.2.2.2.1 G.2.2.1 σ (t, k, i + 1) = .inl (G.2.2.1 0, n, .inl (σ t k (i + 1))) by simp [Ev, hk]] at he
  have hset : (wd G σ).set q0 (G.2.2.2.2.1 (t, k, i + 1), .inl (G.2.2.1 0, n, .inl (upd (σ t k (i + 1)) x.toNatClampNeg v))) = wd G (upM σ t k (wr (σ t k) (i + 1) x.toNatClampNeg v)) := by
    rw [wr_wa, ← Ev_rowI (ad := G.2.2.2.2.1) (cy := G.2.2.1) (σ := σ) (k := k) hk]
    exact wl_set hD hL (fun q' h => Ev_ne q' h)
  refine va_iast hx hb hK hP hD hS q0 0 he rfl hin d (fun H1 locs1 a1 a2 a3 => ?_)
  rw [hset] at a1 a2
  exact kk H1 locs1 ls a1 a2 a3 hl
theorem u_astZ (F : Fx Y G cc own dd) {t i k n : Nat} {x v v2 : Int32} (d : decode cc pc = .ok (.bastore, 1)) (hq : (t, k, i + 1) ∈ cel G) (hk : fk t i = (2, n)) (hin : vp_in x n) (hv : (vp_nar .boolean v) = v2) (kk : U Y G (upM σ t k (wr (σ t k) (i + 1) x.toNatClampNeg v2)) (pc + 1) lv st) : U Y G σ pc lv (.int v :: .int x :: .ref (adr G (t, k, i + 1)) :: st) := by
  subst hv
  obtain ⟨p, e, R, s, m, args, below, meth, c, Q, A, nL, ce, sl⟩ := Y
  obtain ⟨hx, hb, hml, hown, hts, hnb, hK, hA, hlk, hR, hZ⟩ := F
  intro H locs ls hP hD hS hl
  obtain ⟨q0, he, hL⟩ := wl_get (ad := G.2.2.2.2.1) (E := Ev G.2.2.2.2.1 G.2.2.1 σ) hq
  rw [show Ev G.2.2.2.2.1 G.2.2.1 σ (t, k, i + 1) = .inl (G.2.2.1 1, n, .inl (σ t k (i + 1))) by simp [Ev, hk]] at he
  have hset : (wd G σ).set q0 (G.2.2.2.2.1 (t, k, i + 1), .inl (G.2.2.1 1, n, .inl (upd (σ t k (i + 1)) x.toNatClampNeg (vp_nar .boolean v)))) = wd G (upM σ t k (wr (σ t k) (i + 1) x.toNatClampNeg (vp_nar .boolean v))) := by
    rw [wr_wa, ← Ev_rowZ (ad := G.2.2.2.2.1) (cy := G.2.2.1) (σ := σ) (k := k) hk]
    exact wl_set hD hL (fun q' h => Ev_ne q' h)
  refine va_zast hx hb hK hP hD hS q0 1 he rfl hin d (fun H1 locs1 a1 a2 a3 => ?_)
  rw [hset] at a1 a2
  exact kk H1 locs1 ls a1 a2 a3 hl
theorem u_aldO (F : Fx Y G cc own dd) {t i k n : Nat} {x : Int32} (d : decode cc pc = .ok (.aaload, 1)) (hq : (t, k, i + 1) ∈ cel G) (hk : fk t i = (3, n)) (hin : vp_in x n) (kk : U Y G σ (pc + 1) lv (.ref (adr G (7, so t + x.toNatClampNeg, 0)) :: st)) : U Y G σ pc lv (.int x :: .ref (adr G (t, k, i + 1)) :: st) := by
  obtain ⟨p, e, R, s, m, args, below, meth, c, Q, A, nL, ce, sl⟩ := Y
  obtain ⟨hx, hb, hml, hown, hts, hnb, hK, hA, hlk, hR, hZ⟩ := F
  intro H locs ls hP hD hS hl
  obtain ⟨q0, he, hL⟩ := wl_get (ad := G.2.2.2.2.1) (E := Ev G.2.2.2.2.1 G.2.2.1 σ) hq
  rw [show Ev G.2.2.2.2.1 G.2.2.1 σ (t, k, i + 1) = .inl (G.2.2.1 2, n, .inr (.inr (.inr (.inr (fun y => some (G.2.2.2.2.1 (7, so t + y, 0))))))) by simp [Ev, hk]] at he
  exact va_aldq hx hb hK hP q0 2 he rfl hin d (kk H locs ls hP hD hS hl)
theorem u_alen (F : Fx Y G cc own dd) {t i k n : Nat} {v : Int32} (d : decode cc pc = .ok (.arraylength, 1)) (hq : (t, k, i + 1) ∈ cel G) (hk : fk t i = (1, n)) (hv : Int32.ofNat n = v) (kk : U Y G σ (pc + 1) lv (.int v :: st)) : U Y G σ pc lv (.ref (adr G (t, k, i + 1)) :: st) := by
  obtain ⟨p, e, R, s, m, args, below, meth, c, Q, A, nL, ce, sl⟩ := Y
  obtain ⟨hx, hb, hml, hown, hts, hnb, hK, hA, hlk, hR, hZ⟩ := F
  intro H locs ls hP hD hS hl
  obtain ⟨q0, he, hL⟩ := wl_get (ad := G.2.2.2.2.1) (E := Ev G.2.2.2.2.1 G.2.2.1 σ) hq
  rw [show Ev G.2.2.2.2.1 G.2.2.1 σ (t, k, i + 1) = .inl (G.2.2.1 0, n, .inl (σ t k (i + 1))) by simp [Ev, hk]] at he
  exact va_alen hx hb hK hP q0 0 he rfl hv d (kk H locs ls hP hD hS hl)
/-- the reader's static rows -/
theorem u_stat (F : Fx Y G cc own dd) {idx : Nat} (d : decode cc pc = .ok (.getstatic idx, 3)) (x : Nat) (hx6 : x < 6) (hf : Cond.fieldLink own idx "RollingCodes$Reader" (sn x) "[I" ∈ TB) (kk : U Y G σ (pc + 3) lv (.ref (G.2.2.2.2.2 x) :: st)) : U Y G σ pc lv st := by
  obtain ⟨p, e, R, s, m, args, below, meth, c, Q, A, nL, ce, sl⟩ := Y
  obtain ⟨hx, hb, hml, hown, hts, hnb, hK, hA, hlk, hR, hZ⟩ := F
  intro H locs ls hP hD hS hl
  exact va_gets hx hb (hZ x hx6).1 hS hown (hts _ hf) (fun _ h9 => h9) d (kk H locs ls hP hD hS hl)
theorem u_statld (F : Fx Y G cc own dd) {y : Int32} (d : decode cc pc = .ok (.iaload, 1)) (x : Nat) (hx6 : x < 6) (hin : vp_in y (sn_len x)) (kk : U Y G σ (pc + 1) lv (.int (sn_at x y.toNatClampNeg) :: st)) : U Y G σ pc lv (.int y :: .ref (G.2.2.2.2.2 x) :: st) := by
  obtain ⟨p, e, R, s, m, args, below, meth, c, Q, A, nL, ce, sl⟩ := Y
  obtain ⟨hx, hb, hml, hown, hts, hnb, hK, hA, hlk, hR, hZ⟩ := F
  intro H locs ls hP hD hS hl
  exact va_ti hx hb (hZ x hx6).2 hS hin rfl d (kk H locs ls hP hD hS hl)
theorem u_statlen (F : Fx Y G cc own dd) {v : Int32} (d : decode cc pc = .ok (.arraylength, 1)) (x : Nat) (hx6 : x < 6) (hv : Int32.ofNat (sn_len x) = v) (kk : U Y G σ (pc + 1) lv (.int v :: st)) : U Y G σ pc lv (.ref (G.2.2.2.2.2 x) :: st) := by
  obtain ⟨p, e, R, s, m, args, below, meth, c, Q, A, nL, ce, sl⟩ := Y
  obtain ⟨hx, hb, hml, hown, hts, hnb, hK, hA, hlk, hR, hZ⟩ := F
  intro H locs ls hP hD hS hl
  exact va_tlen hx hb (hZ x hx6).2 hS hv d (kk H locs ls hP hD hS hl)
end URows
