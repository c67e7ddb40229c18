/-! the start: the classes that are there, the rows of the reader -/
theorem lw_of {i : Nat} {w : Cond} (h : tables_1[i]? = some w) : w ∈ lw_tbl := List.mem_append_right _ (List.mem_of_getElem? h)
theorem known_of {s : State} {args : Array Value} {own : String} {idx t : Nat} (hN : YN own idx t) (hC : CK t) (hts : ∀ w ∈ TB, w.before args s = true) : ∃ x : ClassId × (Nat → Nat), ∀ q, vwCl[t]? = some q → u_Kn s q.1 q.2.1 q.2.2 x.1 x.2 := by
  obtain ⟨C, T, N, ty, h1, h2, h3, h4, h5, h6⟩ := hC
  obtain ⟨C2, g1, g2, g3, g4⟩ := hN
  have e : C = C2 := by
    rw [h1] at g1
    exact Option.some.inj g1
  subst e
  obtain ⟨cC, iS, h⟩ := u_known (ws := TB) (C := C) (T := T) (N := N) (n := nf t) hts h3 (hts _ g3)
  refine ⟨(cC, iS), fun q hq => ?_⟩
  rw [h1] at hq
  cases hq
  exact h
theorem known_all {s : State} {args : Array Value} (hts : ∀ w ∈ TB, w.before args s = true) : ∃ D : va_G, ∀ (t : Nat) (q : vw_C), vwCl[t]? = some q → u_Kn s q.1 q.2.1 q.2.2 (D.1 t) (D.2 t) := by
  have h : ∀ t : Nat, ∃ x : ClassId × (Nat → Nat), ∀ q, vwCl[t]? = some q → u_Kn s q.1 q.2.1 q.2.2 x.1 x.2 := by
    intro t
    match t with
    | 0 => exact known_of yn_10_70 ck_0 hts
    | 1 => exact known_of yn_10_77 ck_1 hts
    | 2 => exact known_of yn_10_49 ck_2 hts
    | 3 => exact known_of yn_10_42 ck_3 hts
    | 4 => exact known_of yn_10_23 ck_4 hts
    | 5 => exact known_of yn_10_16 ck_5 hts
    | 6 => exact known_of yn_10_56 ck_6 hts
    | 7 => exact known_of yn_10_30 ck_7 hts
    | 8 => exact known_of yn_10_63 ck_8 hts
    | 9 => exact known_of yn_10_7 ck_9 hts
    | 10 => exact known_of yn_L_7 ck_10 hts
    | 11 => exact known_of yn_L_10 ck_11 hts
    | t + 12 => exact ⟨(default, fun _ => 0), fun q hq => by cases hq⟩
  exact ⟨(fun t => (Classical.choose (h t)).1, fun t => (Classical.choose (h t)).2), fun t q hq => Classical.choose_spec (h t) q hq⟩
theorem arr_known {s : State} {args : Array Value} {ty : FieldType} (h : (Cond.arrayClass ty).before args s = true) : ∃ cA, ArrOfT s cA ty ∧ s.vm.findClass ("[" ++ ty.toString) = some cA := by
  obtain ⟨cA, kA, comp, hf, hk, hkind⟩ := Cond.arrayClass_spec h
  exact ⟨cA, fun n z => ⟨(fun k h => by cases h), kA, hk, comp, hkind⟩, hf⟩
theorem nb_known {s : State} {args : Array Value} (hts : ∀ w ∈ lw_tbl, w.before args s = true) : ∀ w ∈ NB, va_Nw w s := by
  intro w hw
  obtain ⟨h1, h2⟩ := List.mem_filter.mp hw
  have h3 := hts w h1
  cases w <;> first | (simp [isNest] at h2; done) | exact h3
theorem cy_known {s : State} {args : Array Value} (hts : ∀ w ∈ lw_tbl, w.before args s = true) : va_AO "RollingCodes$Scene" s ∧ ∃ cy : Nat → ClassId, ∀ (k : Nat) (q : ClassId × FieldType), (tyz cy)[k]? = some q → ArrOfT s q.1 q.2 ∧ va_RA s q.1 q.2 := by
  obtain ⟨c0, a0, b0⟩ := arr_known (hts (.arrayClass .int) (lw_of (i := 39) (by decide +kernel)))
  obtain ⟨c1, a1, b1⟩ := arr_known (hts (.arrayClass .boolean) (lw_of (i := 234) (by decide +kernel)))
  have hAO := hts (.arrayOver (.object "RollingCodes$Scene")) (lw_of (i := 203) (by decide +kernel))
  obtain ⟨comp, c2, k2, h1, h2, h3, h4, h5⟩ := Cond.arrayOver_spec hAO
  refine ⟨va_AO.of hAO, fun i => if i = 0 then c0 else if i = 1 then c1 else c2, fun k q hq => ?_⟩
  match k, hq with
  | 0, hq => cases hq; exact ⟨a0, b0⟩
  | 1, hq => cases hq; exact ⟨a1, b1⟩
  | 2, hq => cases hq; exact ⟨fun n z => ⟨(fun k h => by cases h), k2, h3, comp, h4⟩, k2, comp, h3, h4, h1, h5⟩
  | k + 3, hq => cases hq
theorem sz_one {s : State} {args : Array Value} {A : Nat → Prop} (hA : ∀ a : Nat, a < s.heap.size → ¬ A a) {nm : String} {n : Nat} {f : Nat → Int32} (hn : n < 2 ^ 31) (h1 : (Cond.laysStatic "RollingCodes$Reader" nm "[I").before args s = true) (h2 : (Cond.initialized "RollingCodes$Reader").before args s = true) (h3 : (Cond.arrayOf (.static "RollingCodes$Reader" nm "[I") .int).before args s = true) (h4 : (Cond.eq (.length (.static "RollingCodes$Reader" nm "[I")) (.int (Int32.ofNat n))).before args s = true) (h5 : ∀ j : Nat, j < n → (Cond.eq (.elem (.static "RollingCodes$Reader" nm "[I") (.int (Int32.ofNat j))) (.int (f j))).before args s = true) : ∃ t : Nat, va_Z "RollingCodes$Reader" nm "[I" (.ref t) A s s.heap ∧ va_T .int t n (fun i => .int (f i)) A s s.heap := by
  obtain ⟨t, e1, e2⟩ := va_Tof (tm := .static "RollingCodes$Reader" nm "[I") (f := fun i => .int (f i)) hn h3 (va_eqt h4) (fun j hj => va_eqt (h5 j hj)) hA
  exact ⟨t, va_Zref h1 h2 e1 hA, e2⟩
theorem sz_all {s : State} {b : Nat} {A : Nat → Prop} (hA : ∀ a : Nat, a < s.heap.size → ¬ A a) (hts : ∀ w ∈ lw_tbl, w.before #[Value.ref b] s = true) (hgv : (Jvm.Cond.and given_1 narrow_1).before #[Value.ref b] s = true) : ∃ t6 : Nat → Nat, SZ t6 A s := by
  have hs := flat_of_before _ hgv
  have hi := hts (.initialized "RollingCodes$Reader") (lw_of (i := 3) (by decide +kernel))
  have h : ∀ x : Nat, ∃ t : Nat, x < 6 → va_Z "RollingCodes$Reader" (sn x) "[I" (.ref t) A s s.heap ∧ va_T .int t (sn_len x) (fun i => .int (sn_at x i)) A s s.heap := by
    intro x
    match x with
    | 0 =>
      obtain ⟨t, e⟩ := sz_one (A := A) hA (nm := "EAR_MOST") (n := 2) (f := sn_at 0) (by omega) (hts _ (lw_of (i := 395) (by decide +kernel))) hi (hs _ (by decide +kernel)) (hs _ (by decide +kernel)) (fun j hj => by
        match j, hj with
        | 0, _ => exact hs (.eq (.elem (.static "RollingCodes$Reader" "EAR_MOST" "[I") (.int 0)) (.int 9)) (by decide +kernel)
        | 1, _ => exact hs (.eq (.elem (.static "RollingCodes$Reader" "EAR_MOST" "[I") (.int 1)) (.int 9)) (by decide +kernel)
        | j + 2, hj => exact absurd hj (by omega))
      exact ⟨t, fun _ => e⟩
    | 1 =>
      obtain ⟨t, e⟩ := sz_one (A := A) hA (nm := "EAR_LEAST") (n := 2) (f := sn_at 1) (by omega) (hts _ (lw_of (i := 393) (by decide +kernel))) hi (hs _ (by decide +kernel)) (hs _ (by decide +kernel)) (fun j hj => by
        match j, hj with
        | 0, _ => exact hs (.eq (.elem (.static "RollingCodes$Reader" "EAR_LEAST" "[I") (.int 0)) (.int 0)) (by decide +kernel)
        | 1, _ => exact hs (.eq (.elem (.static "RollingCodes$Reader" "EAR_LEAST" "[I") (.int 1)) (.int 0)) (by decide +kernel)
        | j + 2, hj => exact absurd hj (by omega))
      exact ⟨t, fun _ => e⟩
    | 2 =>
      obtain ⟨t, e⟩ := sz_one (A := A) hA (nm := "GATE_MOST") (n := 3) (f := sn_at 2) (by omega) (hts _ (lw_of (i := 410) (by decide +kernel))) hi (hs _ (by decide +kernel)) (hs _ (by decide +kernel)) (fun j hj => by
        match j, hj with
        | 0, _ => exact hs (.eq (.elem (.static "RollingCodes$Reader" "GATE_MOST" "[I") (.int 0)) (.int 3)) (by decide +kernel)
        | 1, _ => exact hs (.eq (.elem (.static "RollingCodes$Reader" "GATE_MOST" "[I") (.int 1)) (.int 9)) (by decide +kernel)
        | 2, _ => exact hs (.eq (.elem (.static "RollingCodes$Reader" "GATE_MOST" "[I") (.int 2)) (.int 32)) (by decide +kernel)
        | j + 3, hj => exact absurd hj (by omega))
      exact ⟨t, fun _ => e⟩
    | 3 =>
      obtain ⟨t, e⟩ := sz_one (A := A) hA (nm := "GATE_LEAST") (n := 3) (f := sn_at 3) (by omega) (hts _ (lw_of (i := 408) (by decide +kernel))) hi (hs _ (by decide +kernel)) (hs _ (by decide +kernel)) (fun j hj => by
        match j, hj with
        | 0, _ => exact hs (.eq (.elem (.static "RollingCodes$Reader" "GATE_LEAST" "[I") (.int 0)) (.int 0)) (by decide +kernel)
        | 1, _ => exact hs (.eq (.elem (.static "RollingCodes$Reader" "GATE_LEAST" "[I") (.int 1)) (.int 0)) (by decide +kernel)
        | 2, _ => exact hs (.eq (.elem (.static "RollingCodes$Reader" "GATE_LEAST" "[I") (.int 2)) (.int 1)) (by decide +kernel)
        | j + 3, hj => exact absurd hj (by omega))
      exact ⟨t, fun _ => e⟩
    | 4 =>
      obtain ⟨t, e⟩ := sz_one (A := A) hA (nm := "FOB_MOST") (n := 5) (f := sn_at 4) (by omega) (hts _ (lw_of (i := 414) (by decide +kernel))) hi (hs _ (by decide +kernel)) (hs _ (by decide +kernel)) (fun j hj => by
        match j, hj with
        | 0, _ => exact hs (.eq (.elem (.static "RollingCodes$Reader" "FOB_MOST" "[I") (.int 0)) (.int 3)) (by decide +kernel)
        | 1, _ => exact hs (.eq (.elem (.static "RollingCodes$Reader" "FOB_MOST" "[I") (.int 1)) (.int 9)) (by decide +kernel)
        | 2, _ => exact hs (.eq (.elem (.static "RollingCodes$Reader" "FOB_MOST" "[I") (.int 2)) (.int 9)) (by decide +kernel)
        | 3, _ => exact hs (.eq (.elem (.static "RollingCodes$Reader" "FOB_MOST" "[I") (.int 3)) (.int 255)) (by decide +kernel)
        | 4, _ => exact hs (.eq (.elem (.static "RollingCodes$Reader" "FOB_MOST" "[I") (.int 4)) (.int 999)) (by decide +kernel)
        | j + 5, hj => exact absurd hj (by omega))
      exact ⟨t, fun _ => e⟩
    | 5 =>
      obtain ⟨t, e⟩ := sz_one (A := A) hA (nm := "FOB_LEAST") (n := 5) (f := sn_at 5) (by omega) (hts _ (lw_of (i := 412) (by decide +kernel))) hi (hs _ (by decide +kernel)) (hs _ (by decide +kernel)) (fun j hj => by
        match j, hj with
        | 0, _ => exact hs (.eq (.elem (.static "RollingCodes$Reader" "FOB_LEAST" "[I") (.int 0)) (.int 0)) (by decide +kernel)
        | 1, _ => exact hs (.eq (.elem (.static "RollingCodes$Reader" "FOB_LEAST" "[I") (.int 1)) (.int 0)) (by decide +kernel)
        | 2, _ => exact hs (.eq (.elem (.static "RollingCodes$Reader" "FOB_LEAST" "[I") (.int 2)) (.int 0)) (by decide +kernel)
        | 3, _ => exact hs (.eq (.elem (.static "RollingCodes$Reader" "FOB_LEAST" "[I") (.int 3)) (.int 0)) (by decide +kernel)
        | 4, _ => exact hs (.eq (.elem (.static "RollingCodes$Reader" "FOB_LEAST" "[I") (.int 4)) (.int 0)) (by decide +kernel)
        | j + 5, hj => exact absurd hj (by omega))
      exact ⟨t, fun _ => e⟩
    | x + 6 => exact ⟨0, fun hx => absurd hx (by omega)⟩
  exact ⟨fun x => Classical.choose (h x), fun x hx => Classical.choose_spec (h x) hx⟩
/-! THE CLAIM OUT OF ONE WALK OF THE LAW'S BODY. Your part is whole_start (and what it stands on); all else here is the same for every law, but numbers. -/
def R_law : String := "RollingCodesLaw"
def lw_P (b : Addr) (xs : List Int32) (args : Array Value) (s : State) : Prop := args = #[.ref b] ∧ s.IntsAt b xs ∧ xs.length ≤ 1536 ∧ (Jvm.Cond.and given_1 narrow_1).before args s = true
def lw_Q (_ : Array Value) (s : State) (o : Outcome) (t : State) : Prop := o = .returned (some (.int 1)) ∧ Framed s o t [] 600000 7302250
def lw_Z (below : List Frame) (a : Array Value) (s : State) : State → Prop := fun t => ∃ o, t.status = .running ∧ Ended t below o ∧ lw_Q a s o t
/-- the law's own end, with 1 on the stack, nothing written that was there before, its room as the claim has it -/
theorem lw_ret {p : Program} {l : Launch} {e : Env} {s : State} {m : MethodId} {below : List Frame} {meth : Method} {c : Code} {b : Nat} (hx : p.tables.exec = Jvm.exec) (hb : c.code = code) (hr : meth.sig.returnType = ret) (hlocks : meth.locks = false) {pc : Nat} {H : Heap} {ls : Array Slot} (hdg : decode code pc = .ok (.ireturn, 1)) : W p l e room_1 s m #[Value.ref b] below meth c H [] 600000 7302250 (lw_Z below #[Value.ref b] s) (F0 m pc ls [.int 1]) := by
  intro T hT X
  obtain ⟨fs, hret, hrun, hended, hW, hframe⟩ := X.leave (v := some (.int 1)) (hlocks := hlocks) (fun h => by rw [hr] at h; cases h)
  have hmeth' : T.vm.method? m = some meth := X.method'
  refine ⟨T.setFrames fs, ?_, .returned (some (.int 1)), hrun, hended, rfl, ⟨_, rfl⟩, hW, hframe⟩
  jvm_step X.here [X.here.top, hx, hb, hdg, hmeth', hr, ret, narrow_b1]
  (try refine ⟨rfl, ?_⟩); (try refine ⟨rfl, ?_⟩)
  first | (intro acts; rw [hret _ acts rfl rfl rfl]) | rw [hret _ _ rfl rfl rfl]
  exact Steps.refl _
/-- what holds at the law's entry: the machine, the code, the tables' words (any of lw_tbl by 'hts w (by decide +kernel)'), the script of L ints xs at the cell b, what the Statement gives of the start (any of its parts by flat_of_before) -/
def lw_At (p : Program) (s : State) (m : MethodId) (meth : Method) (c : Code) (b L : Nat) (xs : Nat → Int32) : Prop :=
  p.tables.exec = Jvm.exec ∧ c.code = code ∧ meth.sig.returnType = ret ∧ c.maxLocals = 4 ∧ s.vm.findClass R_law = some m.cls ∧ (∀ w ∈ lw_tbl, w.before #[Value.ref b] s = true) ∧ va_X b L xs s s.heap ∧ b < s.heap.size ∧ meth.locks = false ∧ (Jvm.Cond.and given_1 narrow_1).before #[Value.ref b] s = true
set_option maxHeartbeats 4000000 in
set_option maxRecDepth 100000 in
/-- YOUR PART: from the entry, for every script of at most 1536 ints, the law comes to its end with true ('hflags': the launch's flags, for a law that throws: no stack traces) -/
theorem whole_start {p : Program} {e : Env} {s : State} {m : MethodId} {below : List Frame} {meth : Method} {c : Code} (l : Launch) (hflags : l.flags = flags0) {b L : Nat} {xs : Nat → Int32} (hL : L ≤ 1536) (C0 : lw_At p s m meth c b L xs) : W p l e room_1 s m #[Value.ref b] below meth c s.heap [] 0 0 (lw_Z below #[Value.ref b] s) (entryFrame m ([Value.ref b] : List Value).toArray 4) := by
  obtain ⟨hx, hb, hr, hml, hown, hts, hX, hbl, hlocks, hgv⟩ := C0
  have hA0 : ∀ a : Nat, a < s.heap.size → ¬ (fun q : Nat => s.heap.size ≤ q) a := fun a h1 h2 => absurd (show s.heap.size ≤ a from h2) (by omega)
  have htb : ∀ w ∈ TB, w.before #[Value.ref b] s = true := fun w hw => hts w (List.mem_filter.mp hw).1
  obtain ⟨D, hD0⟩ := known_all htb
  obtain ⟨hAO, cy, hcy⟩ := cy_known hts
  obtain ⟨t6, hZ⟩ := sz_all (A := fun q : Nat => s.heap.size ≤ q) hA0 hts hgv
  have hK : va_K D vwCl (tyz cy) s := ⟨hD0, hcy⟩
  have F : Nx (p, e, room_1, s, m, #[Value.ref b], below, meth, c, lw_Z below #[Value.ref b] s, (fun q : Nat => s.heap.size ≤ q), 4, 284, 4932) D cy t6 cL_law RL 800 := ⟨hx, hb, hml, hown, htb, nb_known hts, hK, fun q hq => hq, hlocks, ⟨by decide, by decide, by decide, by decide, by omega⟩, hAO, hZ⟩
  have hS : va_S (fun q : Nat => s.heap.size ≤ q) s.heap s.heap [] := va_S.rf
  have hP : va_P D vwCl [] s.heap := fun k q h => by simp at h
  have hD : va_D (fun q : Nat => s.heap.size ≤ q) [] := ⟨fun i j p q h => by simp at h, fun k q h => by simp at h⟩
  have hl := lv_entry ([.ref b]) (n := 4) (Nat.le_of_ble_eq_true rfl)
  rw [lg_entry_eq]
  generalize (lg_sl ([.ref b]) ++ List.replicate (4 - (lg_sl ([.ref b])).length) Slot.unset).toArray = ls at hl ⊢
  have hl : lv_has ls 4 [(0, .ref b)] := hl
  have hret : ∀ (pc : Nat) (ls : Array Slot) (H : Heap) (locs : List Loc), va_S (fun q : Nat => s.heap.size ≤ q) s.heap H locs → decode cL_law pc = .ok (.ireturn, 1) → W p l e room_1 s m #[Value.ref b] below meth c H locs 284 4932 (lw_Z below #[Value.ref b] s) (F0 m pc ls [.int 1]) := fun pc ls H locs hS1 d => va_forget (fun q hq => hS1.2.2 q hq) (W.widen (k := 600000) (n := 7302250) (by omega) (by omega) (lw_ret hx hb hr hlocks d))
  have hSx : Sx (p, e, room_1, s, m, #[Value.ref b], below, meth, c, lw_Z below #[Value.ref b] s, (fun q : Nat => s.heap.size ≤ q), 4, 284, 4932) b L xs := ⟨hX, hbl, hA0 b hbl⟩
  have key : N (p, e, room_1, s, m, #[Value.ref b], below, meth, c, lw_Z below #[Value.ref b] s, (fun q : Nat => s.heap.size ≤ q), 4, 284, 4932) l D [] 0 0 0 [(0, .ref b)] [] := by
    refine n_new (pc := 0) (t := 10) F dL_law_0 ck_10 yn_L_7 hz_10 (Nat.le_of_ble_eq_true rfl) (Nat.le_of_ble_eq_true rfl) (fun h0 => ?_)
    refine n_dup (pc := 3) F dL_law_3 rfl ?_
    refine n_init (pc := 4) (As := []) (st := [.ref h0]) F (i_X10 l D cy t6 h0) yi_10 mi_L_9 (by omega) rfl rfl (Nat.le_of_ble_eq_true rfl) dL_law_4 (Nat.le_of_ble_eq_true rfl) (Nat.le_of_ble_eq_true rfl) (fun ad e10 => ?_)
    refine n_astore_n (pc := 7) (lv' := [(1, .ref h0), (0, .ref b)]) F dL_law_7 rfl rfl (Nat.le_of_ble_eq_true rfl) rfl ?_
    refine n_new (pc := 8) (t := 11) F dL_law_8 ck_11 yn_L_10 hz_11 (Nat.le_of_ble_eq_true rfl) (Nat.le_of_ble_eq_true rfl) (fun h1 => ?_)
    refine n_dup (pc := 11) F dL_law_11 rfl ?_
    refine n_init (pc := 12) (As := []) (st := [.ref h1]) F (i_X11 l D cy t6 h1) yi_11 mi_L_12 (by omega) rfl rfl (Nat.le_of_ble_eq_true rfl) dL_law_12 (Nat.le_of_ble_eq_true rfl) (Nat.le_of_ble_eq_true rfl) (fun a e11 => ?_)
    refine n_astore_n (pc := 15) (lv' := [(2, .ref h1), (1, .ref h0), (0, .ref b)]) F dL_law_15 rfl rfl (Nat.le_of_ble_eq_true rfl) rfl ?_
    refine n_iconst (pc := 16) (v := nI 0) F dL_law_16 rfl ?_
    refine n_istore_n (pc := 17) (lv' := [(3, .int (nI 0)), (2, .ref h1), (1, .ref h0), (0, .ref b)]) F dL_law_17 rfl rfl (Nat.le_of_ble_eq_true rfl) rfl ?_
    refine n_lv (lv' := [(0, .ref b), (1, .ref h0), (2, .ref h1), (3, .int (nI 0))]) [3, 2, 1, 0] rfl ?_
    refine n_ws (ws2 := wl (LX ++ kk 11 0) (adF a ad) (Ev (adF a ad) cy σF)) F_w ?_
    refine n_U (σ := σF) F rfl (Nat.le_of_ble_eq_true rfl) (Nat.le_of_ble_eq_true rfl) (fun F2 => ?_)
    have g10 : adr (l, D, cy, LX ++ kk 11 0, adF a ad, t6) (10, 0, 0) = h0 := (adF_ne (a := a) (ad := ad) (q := (10, 0, 0)) (by decide)).trans e10
    have g11 : adr (l, D, cy, LX ++ kk 11 0, adF a ad, t6) (11, 0, 0) = h1 := e11
    obtain ⟨σ', hσ⟩ := law_ok xs hL 1000 0 σF ⟨0, 0, INV0⟩ (by omega) (by omega)
    have hIn : In (l, D, cy, LX ++ kk 11 0, adF a ad, t6) := fun t k j hk hj => List.mem_append_left _ (LX_mem hk hj)
    have hIm : Im (l, D, cy, LX ++ kk 11 0, adF a ad, t6) := fun t k j hk hj => by
      match t, hk with
      | 11, hk =>
        obtain rfl : k = 0 := by simp only [cntm] at hk; omega
        exact List.mem_append_right _ (kk_mem hj)
    have fin := wL_law_18 _ _ hIn hIm b L xs hSx F2 rfl 1 σ' (fun pc lv _ d H locs ls hP hD hS hl => hret pc ls H locs hS d) 1000 σF (nI 0) hσ
    rw [g10, g11] at fin
    exact fin
  exact key s.heap [] ls hP hD hS hl
