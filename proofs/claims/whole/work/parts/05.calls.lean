/-! contracts of the methods that make nothing: from a memory to a memory -/
def rmD (d : Nat) : Room := { frames := d, cells := 0, slots := 0, locals := 100 * d }
def Pre (G : G0) (σ : Mem) (sz : Nat) (V : State) : Prop := V.heap.size = sz ∧ va_P G.2.1 vwCl (wd G σ) V.heap ∧ va_K G.2.1 vwCl (tyz G.2.2.1) V ∧ va_D (fun _ => True) (wd G σ) ∧ (∀ w ∈ NB, va_Nw w V) ∧ SZ G.2.2.2.2.2 (va_A (wd G σ) sz) V
def Pst (G : G0) (σ σ' : Mem) (sz : Nat) (t : State) : Prop := va_P G.2.1 vwCl (wd G σ') t.heap ∧ va_D (va_A (wd G σ) sz) (wd G σ')
/-- y answers the number r, and the memory is σ' behind it -/
def CI (G : G0) (y : MethodName) (cc : ByteArray) (maxL : Nat) (ret : FieldType) (d : Nat) (As : List Value) (σ : Mem) (r : Int32) (σ' : Mem) : Prop :=
  ∀ sz : Nat, Met G.1 y (.code y cc maxL (some ret) :: TB) (rmD d) (va_Pc As (Pre G σ sz)) (va_Qi (fun (r2 : Int32) (_ : Unit) => r2 = r) (fun _ t => Pst G σ σ' sz t) (va_A (wd G σ) sz)) 0 0 (va_A (wd G σ) sz)
/-- y answers nothing -/
def CV (G : G0) (y : MethodName) (cc : ByteArray) (maxL : Nat) (d : Nat) (As : List Value) (σ : Mem) (σ' : Mem) : Prop :=
  ∀ sz : Nat, Met G.1 y (.code y cc maxL none :: TB) (rmD d) (va_Pc As (Pre G σ sz)) (va_Qv (fun (_ : Unit) => True) (fun _ t => Pst G σ σ' sz t) (va_A (wd G σ) sz)) 0 0 (va_A (wd G σ) sz)
theorem SZ.moved {t6 : Nat → Nat} {A A' : Nat → Prop} {s V : State} {H : Heap} {locs : List Loc} (h : SZ t6 A s) (hS : va_S A s.heap H locs) (hV : V.heap = H) (hvm : s.vm.Alike V.vm) (hA : ∀ q, A' q → A q) : SZ t6 A' V := by
  intro x hx
  obtain ⟨h1, h2⟩ := h x hx
  rw [hV]
  refine ⟨?_, ((h2.kept hS.2.1).moved hvm).narrow hA⟩
  obtain ⟨cf, kf, fi, f, a, cell, g1, g2, g3, g4, g5, g6, g7, g8⟩ := (h1.kept hS.2.1).moved hvm
  exact ⟨cf, kf, fi, f, a, cell, g1, g2, g3, g4, g5, g6, g7, fun z => g8 (hA a z)⟩
theorem Pre.blind {G : G0} {σ : Mem} {sz : Nat} {As : List Value} : FrameBlind (va_Pc As (Pre G σ sz)) := by
  intro a V g mk h
  obtain ⟨h0, h1, h2, h3, h4, h5, h6⟩ := h
  exact ⟨h0, h1, h2, va_K.moved (u := V) (U := V.calling g mk a) (Vm.Alike.refl V.vm) h3, h4, nb_same (s := V) (U := V.calling g mk a) rfl h5, fun x hx => ⟨va_Z.moved (u := V) (U := V.calling g mk a) (Vm.Alike.refl V.vm) (h6 x hx).1, va_T.moved (u := V) (U := V.calling g mk a) (Vm.Alike.refl V.vm) (h6 x hx).2⟩⟩
theorem wd_A {G : G0} {σ : Mem} {A : Nat → Prop} {H0 H : Heap} {locs : List Loc} (hD : va_D A (wd G σ)) (hS : va_S A H0 H locs) (hA : ∀ q : Nat, H0.size ≤ q → A q) : ∀ q, va_A (wd G σ) H.size q → A q := by
  intro q h
  rcases h with ⟨k, e, h⟩ | h
  · exact hD.2 k (q, e) h
  · exact hA q (Nat.le_trans hS.1 h)
section UCalls
variable {Y : Dy} {G : G0} {cc : ByteArray} {own : String} {dd : Nat} {σ σ2 : Mem} {pc : Nat} {lv : List (Nat × Value)} {st st0 : List Value}
theorem goodT {w1 : Cond} (h1 : w1 ∈ TB) : GoodIn TB (w1 :: TB) := by
  intro w hw
  have hm : w ∈ TB := by
    rcases List.mem_cons.mp hw with h | h
    · rw [h]; exact h1
    · exact h
  exact ⟨hm, tb_good hm⟩
theorem u_runV {p : Program} {e : Env} {R : Room} {s : State} {m : MethodId} {args : Array Value} {below : List Frame} {meth : Method} {c : Code} {Q : State → Prop} {A : Nat → Prop} {nL ce sl : Nat} (F : Fx (p, e, R, s, m, args, below, meth, c, Q, A, nL, ce, sl) G cc own dd) {H : Heap} {locs : List Loc} {ls : Array Slot} (hP : va_P G.2.1 vwCl (wd G σ) H) (hD : va_D A (wd G σ)) (hS : va_S A s.heap H locs) (hl : lv_has ls nL lv)
    {y : MethodName} {cc2 : ByteArray} {maxL d n idx t k : Nat} {ret : Option FieldType} {Qc : Array Value → State → Outcome → State → Prop} {As : List Value} (hq : (t, k, 0) ∈ cel G) (ht : (vwCl[t]?).map (fun q => q.1) = some y.cls)
    (hM : Met G.1 y (.code y cc2 maxL ret :: TB) (rmD d) (va_Pc (.ref (adr G (t, k, 0)) :: As) (Pre G σ H.size)) Qc 0 0 (va_A (wd G σ) H.size)) (hy : YV y cc2 maxL ret n) (hm : ML own idx y) (hd : d + 1 ≤ dd) (hn : As.length = n) (hst : st0 = As.reverse ++ .ref (adr G (t, k, 0)) :: st) (hw : (st.map fun v => v.category).sum ≤ 8) (hdg : decode cc pc = .ok (.invokevirtual idx, 3)) :
    va_Run p G.1 e R s m args below meth c H locs ce sl 0 0 (F0 m pc ls st0) st (Qc (Value.ref (adr G (t, k, 0)) :: As).toArray) (va_A (wd G σ) H.size) := by
  obtain ⟨hx, hb, hml, hown, hts, hnb, hK, hA, hlk, hR, hZ⟩ := F
  obtain ⟨y1, y2, y3, y4, y5, y6, y7, y8⟩ := hy
  obtain ⟨q0, he, hL⟩ := wl_get (ad := G.2.2.2.2.1) (E := Ev G.2.2.2.2.1 G.2.2.1 σ) hq
  have hrm : (rmD d).frames + 1 ≤ R.frames ∧ 8 + (maxL + 11) + (rmD d).locals ≤ R.locals := by
    simp only [rmD]
    omega
  have hpre : PreV s H y.cls (adr G (t, k, 0)) (va_Pc (.ref (adr G (t, k, 0)) :: As) (Pre G σ H.size)) As := by
    refine ⟨Pre.blind, ?_, ?_⟩
    · cases hv : vwCl[t]? with
      | none => rw [hv] at ht; cases ht
      | some q =>
        rw [hv] at ht
        have e1 : q.1 = y.cls := Option.some.inj ht
        rw [← e1]
        exact va_recv hK hP hv he
    · intro V hV hW
      exact ⟨rfl, by rw [hV], by rw [hV]; exact hP, va_K.moved hW.alike hK, hD.weaken (fun _ _ _ _ => trivial), nb_warm hW hnb, hZ.moved hS hV hW.alike (wd_A hD hS hA)⟩
  have hcl : ce + 0 ≤ R.cells ∧ sl + 0 ≤ R.slots := ⟨hR.2.2.1, hR.2.2.2⟩
  subst hst
  rcases hm with hm | ⟨host, hm⟩
  · exact va_runV (As := As) (rest := st) ⟨hx, hb, hml, hown, hts⟩ hM ⟨callB_of n hts (goodT y1) rfl rfl rfl (hts _ y4) (hts _ hm) ⟨y5, y6, y7⟩ hrm, hts _ y2, hts _ y3⟩ hpre rfl hn hl.1 rfl (lv_room hw) hdg hcl
  · exact va_runVN (As := As) (rest := st) ⟨hx, hb, hml, hown, hts⟩ hM ⟨va_cnB n hts (goodT y1) rfl rfl rfl (hnb _ hm) (hts _ y4) ⟨y5, y6, y7⟩ hrm, hts _ y2, hts _ y3⟩ hpre rfl hn hl.1 rfl (lv_room hw) hdg hcl
theorem u_runS {p : Program} {e : Env} {R : Room} {s : State} {m : MethodId} {args : Array Value} {below : List Frame} {meth : Method} {c : Code} {Q : State → Prop} {A : Nat → Prop} {nL ce sl : Nat} (F : Fx (p, e, R, s, m, args, below, meth, c, Q, A, nL, ce, sl) G cc own dd) {H : Heap} {locs : List Loc} {ls : Array Slot} (hP : va_P G.2.1 vwCl (wd G σ) H) (hD : va_D A (wd G σ)) (hS : va_S A s.heap H locs) (hl : lv_has ls nL lv)
    {y : MethodName} {cc2 : ByteArray} {maxL d n idx : Nat} {ret : Option FieldType} {Qc : Array Value → State → Outcome → State → Prop} {As : List Value}
    (hM : Met G.1 y (.code y cc2 maxL ret :: TB) (rmD d) (va_Pc As (Pre G σ H.size)) Qc 0 0 (va_A (wd G σ) H.size)) (hy : YS y cc2 maxL ret n) (hm : ML own idx y) (hd : d + 1 ≤ dd) (hn : As.length = n) (hst : st0 = As.reverse ++ st) (hw : (st.map fun v => v.category).sum ≤ 8) (hdg : decode cc pc = .ok (.invokestatic idx, 3)) :
    va_Run p G.1 e R s m args below meth c H locs ce sl 0 0 (F0 m pc ls st0) st (Qc As.toArray) (va_A (wd G σ) H.size) := by
  obtain ⟨hx, hb, hml, hown, hts, hnb, hK, hA, hlk, hR, hZ⟩ := F
  obtain ⟨y1, y2, y4, y5, y6, y7, y8⟩ := hy
  have hrm : (rmD d).frames + 1 ≤ R.frames ∧ 8 + (maxL + 11) + (rmD d).locals ≤ R.locals := by
    simp only [rmD]
    omega
  have hpre : PreS s H (va_Pc As (Pre G σ H.size)) As := by
    refine ⟨Pre.blind, ?_⟩
    intro V hV hW
    exact ⟨rfl, by rw [hV], by rw [hV]; exact hP, va_K.moved hW.alike hK, hD.weaken (fun _ _ _ _ => trivial), nb_warm hW hnb, hZ.moved hS hV hW.alike (wd_A hD hS hA)⟩
  have hcl : ce + 0 ≤ R.cells ∧ sl + 0 ≤ R.slots := ⟨hR.2.2.1, hR.2.2.2⟩
  subst hst
  rcases hm with hm | ⟨host, hm⟩
  · exact va_runS (As := As) (rest := st) ⟨hx, hb, hml, hown, hts⟩ hM ⟨callB_of n hts (goodT y1) rfl rfl rfl (hts _ y4) (hts _ hm) ⟨y5, y6, y7⟩ hrm, hts _ y2⟩ hpre rfl hn hl.1 rfl (lv_room hw) hdg hcl
  · exact va_runSN (As := As) (rest := st) ⟨hx, hb, hml, hown, hts⟩ hM ⟨va_cnB n hts (goodT y1) rfl rfl rfl (hnb _ hm) (hts _ y4) ⟨y5, y6, y7⟩ hrm, hts _ y2, trivial⟩ hpre rfl hn hl.1 rfl (lv_room hw) hdg hcl
theorem u_calli (F : Fx Y G cc own dd) {y : MethodName} {cc2 : ByteArray} {maxL d n idx t k : Nat} {ret : FieldType} {As : List Value} {r : Int32} (C : CI G y cc2 maxL ret d (.ref (adr G (t, k, 0)) :: As) σ r σ2) (hy : YV y cc2 maxL (some ret) n) (hm : ML own idx y) (hq : (t, k, 0) ∈ cel G) (ht : (vwCl[t]?).map (fun q => q.1) = some y.cls) (hd : d + 1 ≤ dd) (hn : As.length = n) (hst : st0 = As.reverse ++ .ref (adr G (t, k, 0)) :: st) (hw : (st.map fun v => v.category).sum ≤ 8) (hdg : decode cc pc = .ok (.invokevirtual idx, 3)) (kk : U Y G σ2 (pc + 3) lv (.int r :: st)) : U Y G σ pc lv st0 := by
  obtain ⟨p, e, R, s, m, args, below, meth, c, Q, A, nL, ce, sl⟩ := Y
  intro H locs ls hP hD hS hl
  have hFc := wd_A hD hS F.2.2.2.2.2.2.2.1
  refine va_calli (u_runV F hP hD hS hl hq ht (C H.size) hy hm hd hn hst hw hdg) hS (fun q _ h => hFc q h) hFc (fun r2 u t H1 locs1 ht hvm hw hB hz1 hk1 hS1 => ?_)
  subst hw
  obtain ⟨b1, b2⟩ := hB
  rw [ht] at b1
  exact kk H1 locs1 ls b1 (b2.weaken (fun _ q _ h => hFc q.1 h)) hS1 hl
theorem u_callv (F : Fx Y G cc own dd) {y : MethodName} {cc2 : ByteArray} {maxL d n idx t k : Nat} {As : List Value} (C : CV G y cc2 maxL d (.ref (adr G (t, k, 0)) :: As) σ σ2) (hy : YV y cc2 maxL none n) (hm : ML own idx y) (hq : (t, k, 0) ∈ cel G) (ht : (vwCl[t]?).map (fun q => q.1) = some y.cls) (hd : d + 1 ≤ dd) (hn : As.length = n) (hst : st0 = As.reverse ++ .ref (adr G (t, k, 0)) :: st) (hw : (st.map fun v => v.category).sum ≤ 8) (hdg : decode cc pc = .ok (.invokevirtual idx, 3)) (kk : U Y G σ2 (pc + 3) lv st) : U Y G σ pc lv st0 := by
  obtain ⟨p, e, R, s, m, args, below, meth, c, Q, A, nL, ce, sl⟩ := Y
  intro H locs ls hP hD hS hl
  have hFc := wd_A hD hS F.2.2.2.2.2.2.2.1
  refine va_callv (u_runV F hP hD hS hl hq ht (C H.size) hy hm hd hn hst hw hdg) hS (fun q _ h => hFc q h) hFc (fun u t H1 locs1 ht hvm hw hB hz1 hk1 hS1 => ?_)
  obtain ⟨b1, b2⟩ := hB
  rw [ht] at b1
  exact kk H1 locs1 ls b1 (b2.weaken (fun _ q _ h => hFc q.1 h)) hS1 hl
theorem u_callSi (F : Fx Y G cc own dd) {y : MethodName} {cc2 : ByteArray} {maxL d n idx : Nat} {ret : FieldType} {As : List Value} {r : Int32} (C : CI G y cc2 maxL ret d As σ r σ2) (hy : YS y cc2 maxL (some ret) n) (hm : ML own idx y) (hd : d + 1 ≤ dd) (hn : As.length = n) (hst : st0 = As.reverse ++ st) (hw : (st.map fun v => v.category).sum ≤ 8) (hdg : decode cc pc = .ok (.invokestatic idx, 3)) (kk : U Y G σ2 (pc + 3) lv (.int r :: st)) : U Y G σ pc lv st0 := by
  obtain ⟨p, e, R, s, m, args, below, meth, c, Q, A, nL, ce, sl⟩ := Y
  intro H locs ls hP hD hS hl
  have hFc := wd_A hD hS F.2.2.2.2.2.2.2.1
  refine va_calli (u_runS F hP hD hS hl (C H.size) hy hm hd hn hst hw hdg) hS (fun q _ h => hFc q h) hFc (fun r2 u t H1 locs1 ht hvm hw hB hz1 hk1 hS1 => ?_)
  subst hw
  obtain ⟨b1, b2⟩ := hB
  rw [ht] at b1
  exact kk H1 locs1 ls b1 (b2.weaken (fun _ q _ h => hFc q.1 h)) hS1 hl
theorem u_callSv (F : Fx Y G cc own dd) {y : MethodName} {cc2 : ByteArray} {maxL d n idx : Nat} {As : List Value} (C : CV G y cc2 maxL d As σ σ2) (hy : YS y cc2 maxL none n) (hm : ML own idx y) (hd : d + 1 ≤ dd) (hn : As.length = n) (hst : st0 = As.reverse ++ st) (hw : (st.map fun v => v.category).sum ≤ 8) (hdg : decode cc pc = .ok (.invokestatic idx, 3)) (kk : U Y G σ2 (pc + 3) lv st) : U Y G σ pc lv st0 := by
  obtain ⟨p, e, R, s, m, args, below, meth, c, Q, A, nL, ce, sl⟩ := Y
  intro H locs ls hP hD hS hl
  have hFc := wd_A hD hS F.2.2.2.2.2.2.2.1
  refine va_callv (u_runS F hP hD hS hl (C H.size) hy hm hd hn hst hw hdg) hS (fun q _ h => hFc q h) hFc (fun u t H1 locs1 ht hvm hw hB hz1 hk1 hS1 => ?_)
  obtain ⟨b1, b2⟩ := hB
  rw [ht] at b1
  exact kk H1 locs1 ls b1 (b2.weaken (fun _ q _ h => hFc q.1 h)) hS1 hl
end UCalls
theorem ofWF {l : Launch} {y : MethodName} {ws ws' : List Cond} {rm : Room} {Pc : Array Value → State → Prop} {Qc : Array Value → State → Outcome → State → Prop} {mc ms : Nat} {free : Addr → Prop} {cc : ByteArray} {maxL : Nat} {ret : Option FieldType}
    (hy : plainFor y = true) (hw : ws = Cond.code y cc maxL ret :: ws')
    (body : ∀ p e s m args below meth c s₁, BodyLoose p l y (headSpec ws rm) cc maxL ret e s m args below meth c s₁ → c.maxLocals = maxL → Pc args s →
      W p l e (headSpec ws rm).room s m args below meth c s.heap [] 0 0 (MQ below Qc args s mc ms free) (entryFrame m args maxL)) : Met l y ws rm Pc Qc mc ms free := by
  refine MetFree.of_bodySF (code := cc) (maxLocals := maxL) (ret := ret) hy ?_ ?_
  · intro args s m h hn
    obtain ⟨meth, c, h1, h2, h3, h4, h5, h6, -, -⟩ := Cond.code_spec hn (atoms_spec (ws := ws) h _ (by rw [hw]; exact List.mem_cons_self))
    exact ⟨meth, c, h1, h2, h3, h4, h5, h6⟩
  · intro p e s m args below meth c s₁ B hml hP _
    have hh0 : s₁.heap = s.heap := by rw [B.state]; rfl
    obtain ⟨t, a1, o, b1, b2, b3⟩ := body p e s m args below meth c s₁ B hml hP s₁ hh0 (Stand.of_body B)
    exact ⟨t, o, a1, b1, b2, ⟨b3.1, b3.2⟩⟩
/-- a contract out of a walk -/
theorem CI.of {G : G0} {y : MethodName} {cc : ByteArray} {maxL d : Nat} {ret : FieldType} {As : List Value} {σ σ' : Mem} {r : Int32} (hy : plainFor y = true) (hlen : (lg_sl As).length ≤ maxL)
    (body : ∀ Y : Dy, Y.2.2.2.2.2.2.2.2.2.2.2.1 = maxL → Fx Y G cc y.cls d → (∀ (pc : Nat) (lv : List (Nat × Value)), narrow ret (.int r) = .int r → decode cc pc = .ok (.ireturn, 1) → U Y G σ' pc lv [.int r]) → U Y G σ 0 (lv_args 0 As) []) : CI G y cc maxL ret d As σ r σ' := by
  intro sz
  refine ofWF (cc := cc) (maxL := maxL) (ret := some ret) hy rfl ?_
  intro p e s m args below meth c s₁ B hml hv
  obtain ⟨rfl, hsz, hP, hK, hD0, hNB, hZ⟩ := hv
  have hts := atoms_spec (ws := .code y cc maxL (some ret) :: TB) B.pre
  have hown : s.vm.findClass y.cls = some m.cls := findClass_of_methodNamed B.named
  subst hsz
  have hD := hD0.self (sz := s.heap.size)
  have hl := lv_entry As (n := maxL) hlen
  rw [lg_entry_eq]
  have F : Fx (p, e, (headSpec (.code y cc maxL (some ret) :: TB) (rmD d)).room, s, m, As.toArray, below, meth, c, MQ below (va_Qi (fun (r2 : Int32) (_ : Unit) => r2 = r) (fun _ t => Pst G σ σ' s.heap.size t) (va_A (wd G σ) s.heap.size)) As.toArray s 0 0 (va_A (wd G σ) s.heap.size), va_A (wd G σ) s.heap.size, maxL, 0, 0) G cc y.cls d :=
    ⟨B.exec, B.bytes, hml, hown, fun w hw => hts w (List.mem_cons_of_mem _ hw), hNB, hK, fun q h => Or.inr h, B.notSynchronized, ⟨Nat.le_refl _, Nat.le_refl _, Nat.zero_le _, Nat.zero_le _⟩, hZ⟩
  refine body _ rfl F (fun pc lv hn dr => ?_) s.heap [] _ hP hD va_S.rf hl
  intro H locs ls hP1 hD1 hS1 hl1
  exact W.zret B.exec B.bytes B.returns hn (fun t ht hW => ⟨⟨r, (), rfl, rfl, by rw [ht]; exact hP1, hD1⟩, hS1.F ht⟩) hS1.2.2 dr B.notSynchronized
theorem CV.of {G : G0} {y : MethodName} {cc : ByteArray} {maxL d : Nat} {As : List Value} {σ σ' : Mem} (hy : plainFor y = true) (hlen : (lg_sl As).length ≤ maxL)
    (body : ∀ Y : Dy, Y.2.2.2.2.2.2.2.2.2.2.2.1 = maxL → Fx Y G cc y.cls d → (∀ (pc : Nat) (lv : List (Nat × Value)), decode cc pc = .ok (.return_, 1) → U Y G σ' pc lv []) → U Y G σ 0 (lv_args 0 As) []) : CV G y cc maxL d As σ σ' := by
  intro sz
  refine ofWF (cc := cc) (maxL := maxL) (ret := none) hy rfl ?_
  intro p e s m args below meth c s₁ B hml hv
  obtain ⟨rfl, hsz, hP, hK, hD0, hNB, hZ⟩ := hv
  have hts := atoms_spec (ws := .code y cc maxL none :: TB) B.pre
  have hown : s.vm.findClass y.cls = some m.cls := findClass_of_methodNamed B.named
  subst hsz
  have hD := hD0.self (sz := s.heap.size)
  have hl := lv_entry As (n := maxL) hlen
  rw [lg_entry_eq]
  have F : Fx (p, e, (headSpec (.code y cc maxL none :: TB) (rmD d)).room, s, m, As.toArray, below, meth, c, MQ below (va_Qv (fun (_ : Unit) => True) (fun _ t => Pst G σ σ' s.heap.size t) (va_A (wd G σ) s.heap.size)) As.toArray s 0 0 (va_A (wd G σ) s.heap.size), va_A (wd G σ) s.heap.size, maxL, 0, 0) G cc y.cls d :=
    ⟨B.exec, B.bytes, hml, hown, fun w hw => hts w (List.mem_cons_of_mem _ hw), hNB, hK, fun q h => Or.inr h, B.notSynchronized, ⟨Nat.le_refl _, Nat.le_refl _, Nat.zero_le _, Nat.zero_le _⟩, hZ⟩
  refine body _ rfl F (fun pc lv dr => ?_) s.heap [] _ hP hD va_S.rf hl
  intro H locs ls hP1 hD1 hS1 hl1
  exact W.vret B.exec B.bytes B.returns (fun t ht hW => ⟨⟨(), rfl, trivial, by rw [ht]; exact hP1, hD1⟩, hS1.F ht⟩) hS1.2.2 dr B.notSynchronized
