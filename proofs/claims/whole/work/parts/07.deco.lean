/-! words of the decompiled functions: a name for a value, a place that must lie in its row, a call, a divisor, a truth value -/
def d_lt {α β : Type} (e : α) (k : α → Option β) : Option β := k e
def d_ab {β : Type} (x : Int32) (n : Nat) (b : Option β) : Option β := if 0 ≤ x ∧ x.toNatClampNeg < n then b else none
def d_bd {α β : Type} (o : Option α) (k : α → Option β) : Option β := match o with
  | none => none
  | some a => k a
def d_nz {β : Type} (y : Int32) (b : Option β) : Option β := if y = 0 then none else b
def d_zb {β : Type} (v : Int32) (b : Option β) : Option β := if v = 0 ∨ v = 1 then b else none
def d_ck {β : Type} (c : Bool) (b : Option β) : Option β := if c = true then b else none
theorem d_lt_some {α β : Type} {e : α} {k : α → Option β} {z : β} (h : d_lt e k = some z) : ∃ x, x = e ∧ k x = some z := ⟨e, rfl, h⟩
theorem d_ab_some {β : Type} {x : Int32} {n : Nat} {b : Option β} {z : β} (h : d_ab x n b = some z) : vp_in x n ∧ b = some z := by
  unfold d_ab at h
  split at h
  · rename_i c
    refine ⟨?_, h⟩
    intro hh
    rcases hh with hh | hh
    · exact Int32.not_lt.mpr c.1 hh
    · omega
  · cases h
theorem d_bd_some {α β : Type} {o : Option α} {k : α → Option β} {z : β} (h : d_bd o k = some z) : ∃ a, o = some a ∧ k a = some z := by
  cases o with
  | none => cases h
  | some a => exact ⟨a, rfl, h⟩
theorem d_nz_some {β : Type} {y : Int32} {b : Option β} {z : β} (h : d_nz y b = some z) : ¬ y = 0 ∧ b = some z := by
  unfold d_nz at h
  split at h
  · cases h
  · rename_i c
    exact ⟨c, h⟩
theorem d_zb_some {β : Type} {v : Int32} {b : Option β} {z : β} (h : d_zb v b = some z) : (v = 0 ∨ v = 1) ∧ b = some z := by
  unfold d_zb at h
  split at h
  · rename_i c
    exact ⟨c, h⟩
  · cases h
theorem d_ck_some {β : Type} {c : Bool} {b : Option β} {z : β} (h : d_ck c b = some z) : c = true ∧ b = some z := by
  unfold d_ck at h
  split at h
  · rename_i c
    exact ⟨c, h⟩
  · cases h
theorem nar_zb {v : Int32} (h : v = 0 ∨ v = 1) : narrow .boolean (.int v) = .int v := by
  rcases h with rfl | rfl <;> rfl
theorem fit_zb {v : Int32} (h : v = 0 ∨ v = 1) : fits .boolean (.int v) = true := by
  rcases h with rfl | rfl <;> rfl
theorem vpn_zb {v : Int32} (h : v = 0 ∨ v = 1) : vp_nar .boolean v = v := by
  rcases h with rfl | rfl <;> rfl
def cnt : Nat → Nat
  | 0 => 1 | 1 => 1 | 2 => 1 | 3 => 1 | 4 => 2 | 5 => 1 | 6 => 1 | 7 => 24 | 8 => 1 | 9 => 1 | 10 => 1 | _ => 0
def okj (t : Nat) : Nat → Bool
  | 0 => true
  | i + 1 => Nat.ble 1 (fk t i).1 && Nat.ble (fk t i).1 3
/-- the class's cells are in the world; the model's -/
def In (G : G0) : Prop := ∀ t k j : Nat, k < cnt t → okj t j = true → (t, k, j) ∈ cel G
def cntm : Nat → Nat
  | 11 => 1 | _ => 0
def Im (G : G0) : Prop := ∀ t k j : Nat, k < cntm t → okj t j = true → (t, k, j) ∈ cel G
theorem okj_of {t i a n : Nat} (h : fk t i = (a + 1, n)) (ha : a < 3) : okj t (i + 1) = true := by
  simp only [okj, h]
  rcases (show a = 0 ∨ a = 1 ∨ a = 2 by omega) with rfl | rfl | rfl <;> rfl
theorem upM_mid (σ : Mem) {t k t2 k2 : Nat} (g g2 g' : Grp) (h : ¬ (t = t2 ∧ k = k2)) : upM (upM (upM σ t k g) t2 k2 g2) t k g' = upM (upM σ t k g') t2 k2 g2 := by
  rw [upM_swap _ _ _ (fun e => h ⟨e.1.symm, e.2.symm⟩), upM_upM]
theorem i32_ne {x : Int32} {n : Int32} (h : ¬ x = n) : ¬ x.toInt = n.toInt := fun e => h (Int32.toInt_inj.mp e)
section URows1
variable {Y : Dy} {G : G0} {cc : ByteArray} {own : String} {dd : Nat} {σ : Mem} {pc : Nat} {lv lv' : List (Nat × Value)} {st : List Value}
theorem u_topi {x y : Int32} (h : y = x) (k : U Y G σ pc lv (.int y :: st)) : U Y G σ pc lv (.int x :: st) := h ▸ k
theorem u_topl {x y : Int64} (h : y = x) (k : U Y G σ pc lv (.long y :: st)) : U Y G σ pc lv (.long x :: st) := h ▸ k
variable {t k i n : Nat} {g : Grp}
theorem u_get1 (F : Fx Y G cc own dd) {idx : Nat} (d : decode cc pc = .ok (.getfield idx, 3)) (hq : (t, k, 0) ∈ cel G) (hC : CK t) (hf : FL own idx t i) (hk : fk t i = (0, n)) (hi : i < nf t) (kk : U Y G (upM σ t k g) (pc + 3) lv (.int (g 0 i) :: st)) : U Y G (upM σ t k g) pc lv (.ref (adr G (t, k, 0)) :: st) := u_get F d hq hC hf hk hi (congrFun (congrFun (upM_same σ t k g) 0) i) kk
theorem u_put1 (F : Fx Y G cc own dd) {idx : Nat} {v : Int32} {ty0 : FieldType} (d : decode cc pc = .ok (.putfield idx, 3)) (hq : (t, k, 0) ∈ cel G) (hC : CK t) (hf : FL own idx t i) (hk : fk t i = (0, n)) (hi : i < nf t) (hfin : (fT t i).2.2.2 = false) (hty : parseFieldDescriptor (fT t i).2.2.1 = some ty0) (hn : narrow ty0 (.int v) = .int v) (hfit : fits ty0 (.int v) = true) (kk : U Y G (upM σ t k (wr g 0 i v)) (pc + 3) lv st) : U Y G (upM σ t k g) pc lv (.int v :: .ref (adr G (t, k, 0)) :: st) := u_put F d hq hC hf hk hi hfin hty hn hfit (by rw [upM_same, upM_upM]; exact kk)
theorem u_aldI1 (F : Fx Y G cc own dd) {x : Int32} (d : decode cc pc = .ok (.iaload, 1)) (hq : (t, k, i + 1) ∈ cel G) (hk : fk t i = (1, n)) (hin : vp_in x n) (kk : U Y G (upM σ t k g) (pc + 1) lv (.int (g (i + 1) x.toNatClampNeg) :: st)) : U Y G (upM σ t k g) pc lv (.int x :: .ref (adr G (t, k, i + 1)) :: st) := u_aldI F d hq hk hin (congrFun (congrFun (upM_same σ t k g) (i + 1)) _) kk
theorem u_aldZ1 (F : Fx Y G cc own dd) {x : Int32} (d : decode cc pc = .ok (.baload, 1)) (hq : (t, k, i + 1) ∈ cel G) (hk : fk t i = (2, n)) (hin : vp_in x n) (kk : U Y G (upM σ t k g) (pc + 1) lv (.int (g (i + 1) x.toNatClampNeg) :: st)) : U Y G (upM σ t k g) pc lv (.int x :: .ref (adr G (t, k, i + 1)) :: st) := u_aldZ F d hq hk hin (congrFun (congrFun (upM_same σ t k g) (i + 1)) _) kk
theorem u_astI1 (F : Fx Y G cc own dd) {x v : Int32} (d : decode cc pc = .ok (.iastore, 1)) (hq : (t, k, i + 1) ∈ cel G) (hk : fk t i = (1, n)) (hin : vp_in x n) (kk : U Y G (upM σ t k (wr g (i + 1) x.toNatClampNeg v)) (pc + 1) lv st) : U Y G (upM σ t k g) pc lv (.int v :: .int x :: .ref (adr G (t, k, i + 1)) :: st) := u_astI F d hq hk hin rfl (by rw [upM_same, upM_upM]; exact kk)
theorem u_astZ1 (F : Fx Y G cc own dd) {x v v2 : Int32} (d : decode cc pc = .ok (.bastore, 1)) (hq : (t, k, i + 1) ∈ cel G) (hk : fk t i = (2, n)) (hin : vp_in x n) (hv : vp_nar .boolean v = v2) (kk : U Y G (upM σ t k (wr g (i + 1) x.toNatClampNeg v2)) (pc + 1) lv st) : U Y G (upM σ t k g) pc lv (.int v :: .int x :: .ref (adr G (t, k, i + 1)) :: st) := u_astZ F d hq hk hin hv (by rw [upM_same, upM_upM]; exact kk)
end URows1
theorem so_lt {x : Int32} {n b : Nat} (h : vp_in x n) (hb : b + n ≤ 24) : b + x.toNatClampNeg < 24 := by
  have : x.toNatClampNeg < n := Nat.not_le.mp (fun q => h (Or.inr q))
  omega
section URows2
variable {Y : Dy} {G : G0} {cc : ByteArray} {own : String} {dd : Nat} {σ : Mem} {pc : Nat} {lv : List (Nat × Value)} {st : List Value}
theorem u_ldc_w (F : Fx Y G cc own dd) {n : Nat} {v : Int32} (d : decode cc pc = .ok (.ldc_w n, 3)) (hv : Cond.constant own n v ∈ TB) (k : U Y G σ (pc + 3) lv (.int v :: st)) : U Y G σ pc lv st := by
  obtain ⟨p, e, R, s, m, args, below, meth, c, Q, A, nL, ce, sl⟩ := Y
  obtain ⟨hx, hb, hml, hown, hts, hnb, hK, hA, hlk, hR, hZ⟩ := F
  intro H locs ls hP hD hS hl
  exact lv_ldcw hx hb hown (hts _ hv) d (k H locs ls hP hD hS hl)
theorem u_ineg (F : Fx Y G cc own dd) {x : Int32} (d : decode cc pc = .ok (.ineg, 1)) (k : U Y G σ (pc + 1) lv (.int (-x) :: st)) : U Y G σ pc lv (.int x :: st) := by
  obtain ⟨p, e, R, s, m, args, below, meth, c, Q, A, nL, ce, sl⟩ := Y
  obtain ⟨hx, hb, hml, hown, hts, hnb, hK, hA, hlk, hR, hZ⟩ := F
  intro H locs ls hP hD hS hl
  exact lv_ineg hx hb d (k H locs ls hP hD hS hl)
end URows2
theorem kc_J6_265 : Cond.constant RJ6 265 (1431655765) ∈ TB := tb_of (i := 572) (by decide +kernel) rfl
theorem kc_J6_266 : Cond.constant RJ6 266 (858993459) ∈ TB := tb_of (i := 573) (by decide +kernel) rfl
theorem kc_J6_267 : Cond.constant RJ6 267 (252645135) ∈ TB := tb_of (i := 574) (by decide +kernel) rfl
