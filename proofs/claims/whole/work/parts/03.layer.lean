/-! The layer: both objects' cells are made in constructors and stay where they are, so a heap picture is a memory of numbers (kind of object, which one, cell, slot), and a walk is a judgement over program counter, locals, stack and memory. -/
abbrev Grp : Type := Nat → Nat → Int32
abbrev Mem : Type := Nat → Nat → Grp
abbrev Key : Type := Nat × Nat × Nat
/-- slot i of cell j gets v -/
def wr (g : Grp) (j i : Nat) (v : Int32) : Grp := fun j' => if j' = j then upd (g j) i v else g j'
/-- cell j gets the row f -/
def wa (g : Grp) (j : Nat) (f : Nat → Int32) : Grp := fun j' => if j' = j then f else g j'
def upM (σ : Mem) (t k : Nat) (g : Grp) : Mem := fun t' k' => if t' = t ∧ k' = k then g else σ t' k'
theorem upM_same (σ : Mem) (t k : Nat) (g : Grp) : upM σ t k g t k = g := by simp [upM]
theorem upM_ne {σ : Mem} {t k t' k' : Nat} {g : Grp} (h : ¬ (t' = t ∧ k' = k)) : upM σ t k g t' k' = σ t' k' := by simp [upM, h]
theorem upM_self (σ : Mem) (t k : Nat) : upM σ t k (σ t k) = σ := by
  funext t' k'
  by_cases h : t' = t ∧ k' = k
  · obtain ⟨rfl, rfl⟩ := h; simp [upM]
  · simp [upM, h]
theorem upM_upM (σ : Mem) (t k : Nat) (g g' : Grp) : upM (upM σ t k g) t k g' = upM σ t k g' := by
  funext t' k'
  by_cases h : t' = t ∧ k' = k <;> simp [upM, h]
theorem upM_swap (σ : Mem) {t k t2 k2 : Nat} (g g2 : Grp) (h : ¬ (t = t2 ∧ k = k2)) : upM (upM σ t k g) t2 k2 g2 = upM (upM σ t2 k2 g2) t k g := by
  funext t' k'
  by_cases h1 : t' = t ∧ k' = k
  · obtain ⟨rfl, rfl⟩ := h1; simp [upM, h]
  · simp [upM, h1]
theorem wr_at (g : Grp) (j i : Nat) (v : Int32) : wr g j i v j = upd (g j) i v := by simp [wr]
theorem wr_eq (g : Grp) (j i : Nat) (v : Int32) : wr g j i v j i = v := by simp [wr, upd]
theorem wr_ne {g : Grp} {j i j' i' : Nat} {v : Int32} (h : ¬ (j' = j ∧ i' = i)) : wr g j i v j' i' = g j' i' := by
  by_cases hj : j' = j
  · subst hj
    have hi : ¬ i' = i := fun e => h ⟨rfl, e⟩
    simp [wr, upd, hi]
  · simp [wr, hj]
/-- the number of fields of the kinds of objects -/
def nf : Nat → Nat
  | 0 => 3 | 1 => 1 | 2 => 3 | 3 => 3 | 4 => 13 | 5 => 5 | 6 => 2 | 7 => 13 | 8 => 3 | 9 => 2 | 10 => 12 | 11 => 46 | _ => 0
/-- what a field holds: (0, _) a number, (1, n) a row of n numbers, (2, n) a row of n truth values, (3, n) a row of n scenes, (4, _) an object -/
def fk : Nat → Nat → Nat × Nat
  | 0, 0 => (1, 15) | 0, 1 => (1, 15)
  | 2, 0 => (3, 2) | 2, 1 => (1, 2) | 2, 2 => (2, 2)
  | 3, 0 => (3, 16)
  | 4, 5 => (1, 4) | 4, 6 => (1, 4) | 4, 7 => (1, 4) | 4, 8 => (1, 5) | 4, 9 => (1, 5) | 4, 10 => (1, 5) | 4, 11 => (1, 5) | 4, 12 => (1, 5)
  | 5, 0 => (4, 0) | 5, 1 => (1, 5)
  | 6, 0 => (3, 4) | 6, 1 => (1, 3)
  | 7, 0 => (4, 0) | 7, 5 => (1, 8) | 7, 6 => (1, 5) | 7, 7 => (1, 5) | 7, 8 => (1, 5) | 7, 9 => (1, 4) | 7, 10 => (1, 4) | 7, 11 => (1, 4) | 7, 12 => (1, 20)
  | 8, 0 => (2, 256) | 8, 1 => (1, 509)
  | 9, 0 => (1, 240)
  | 10, 0 => (4, 0) | 10, 1 => (4, 0) | 10, 2 => (4, 0) | 10, 3 => (4, 0) | 10, 4 => (4, 0) | 10, 5 => (4, 0) | 10, 6 => (4, 0) | 10, 7 => (4, 0) | 10, 8 => (4, 0) | 10, 9 => (4, 0) | 10, 10 => (4, 0)
  | 11, 4 => (1, 4) | 11, 5 => (1, 4) | 11, 6 => (1, 4) | 11, 8 => (1, 5) | 11, 9 => (1, 5) | 11, 10 => (1, 5) | 11, 11 => (1, 5) | 11, 12 => (1, 5) | 11, 13 => (1, 59) | 11, 15 => (1, 240)
  | 11, 21 => (1, 2) | 11, 23 => (1, 4) | 11, 24 => (1, 4) | 11, 25 => (1, 4) | 11, 27 => (1, 5) | 11, 28 => (1, 5) | 11, 29 => (1, 5) | 11, 30 => (1, 5) | 11, 31 => (1, 5)
  | 11, 33 => (1, 944) | 11, 34 => (1, 59) | 11, 38 => (1, 6) | 11, 39 => (1, 6) | 11, 40 => (1, 509) | 11, 42 => (1, 15) | 11, 43 => (1, 15) | 11, 44 => (1, 120) | 11, 45 => (2, 2)
  | _, _ => (0, 0)
/-- the object that a field of kind 4 holds -/
def fo : Nat → Nat → Key
  | 5, _ => (4, 1, 0)
  | 7, _ => (4, 0, 0)
  | 10, 0 => (9, 0, 0) | 10, 1 => (5, 0, 0) | 10, 2 => (4, 0, 0) | 10, 3 => (7, 0, 0) | 10, 4 => (7, 1, 0) | 10, 5 => (3, 0, 0) | 10, 6 => (2, 0, 0) | 10, 7 => (6, 0, 0) | 10, 8 => (8, 0, 0) | 10, 9 => (0, 0, 0) | 10, _ => (1, 0, 0)
  | _, _ => (0, 0, 0)
/-- the first scene of a row of scenes -/
def so : Nat → Nat
  | 3 => 2 | 2 => 18 | _ => 20
def fv (ad : Key → Nat) (σ : Mem) (t k i : Nat) : Value := match fk t i with
  | (0, _) => .int (σ t k 0 i)
  | (4, _) => .ref (ad (fo t i))
  | _ => .ref (ad (t, k, i + 1))
def Ev (ad : Key → Nat) (cy : Nat → ClassId) (σ : Mem) : Key → va_E
  | (t, k, 0) => .inr (t, (List.range (nf t)).map (fv ad σ t k))
  | (t, k, i + 1) => match fk t i with
    | (1, n) => .inl (cy 0, n, .inl (σ t k (i + 1)))
    | (2, n) => .inl (cy 1, n, .inl (σ t k (i + 1)))
    | (_, n) => .inl (cy 2, n, .inr (.inr (.inr (.inr (fun x => some (ad (7, so t + x, 0)))))))
def wl (L : List Key) (ad : Key → Nat) (E : Key → va_E) : va_W := L.map (fun q => (ad q, E q))
theorem wl_get {L : List Key} {ad : Key → Nat} {E : Key → va_E} {q : Key} (h : q ∈ L) : ∃ i : Nat, (wl L ad E)[i]? = some (ad q, E q) ∧ L[i]? = some q := by
  obtain ⟨i, hi⟩ := List.getElem?_of_mem h
  exact ⟨i, by simp [wl, hi], hi⟩
theorem wl_set {L : List Key} {ad : Key → Nat} {E E' : Key → va_E} {A : Nat → Prop} {q : Key} {i : Nat} (hD : va_D A (wl L ad E)) (hi : L[i]? = some q) (hne : ∀ q', q' ≠ q → E' q' = E q') : (wl L ad E).set i (ad q, E' q) = wl L ad E' := by
  apply List.ext_getElem?
  intro n
  by_cases h : n = i
  · subst h
    have hlt : n < L.length := (List.getElem?_eq_some_iff.mp hi).1
    have he : L[n] = q := (List.getElem?_eq_some_iff.mp hi).2
    simp [wl, hlt, he]
  · rw [List.getElem?_set_ne (Ne.symm h)]
    simp only [wl, List.getElem?_map]
    cases hn : L[n]? with
    | none => rfl
    | some q' =>
      have h1 : q' ≠ q := fun e => h (hD.1 n i (ad q', E q') (ad q, E q) (by simp [wl, hn]) (by simp [wl, hi]) (by rw [e]))
      simp [hne q' h1]
theorem Ev_ne {ad : Key → Nat} {cy : Nat → ClassId} {σ : Mem} {t k j : Nat} {f : Nat → Int32} (q : Key) (h : q ≠ (t, k, j)) : Ev ad cy (upM σ t k (wa (σ t k) j f)) q = Ev ad cy σ q := by
  obtain ⟨t', k', j'⟩ := q
  have hr : ∀ j2 : Nat, ¬ (t' = t ∧ k' = k ∧ j2 = j) → upM σ t k (wa (σ t k) j f) t' k' j2 = σ t' k' j2 := by
    intro j2 h2
    by_cases h3 : t' = t ∧ k' = k
    · obtain ⟨rfl, rfl⟩ := h3
      have h4 : ¬ j2 = j := fun e => h2 ⟨rfl, rfl, e⟩
      simp [upM, wa, h4]
    · simp [upM, h3]
  have hh : ¬ (t' = t ∧ k' = k ∧ j' = j) := fun e => h (by rw [e.1, e.2.1, e.2.2])
  cases j' with
  | zero =>
    have e : fv ad (upM σ t k (wa (σ t k) j f)) t' k' = fv ad σ t' k' := by
      funext i
      unfold fv
      split
      · rw [hr 0 hh]
      · rfl
      · rfl
    simp only [Ev, e]
  | succ i => simp only [Ev, hr (i + 1) hh]
theorem wr_wa (g : Grp) (j i : Nat) (v : Int32) : wr g j i v = wa g j (upd (g j) i v) := rfl
theorem Ev_num {ad : Key → Nat} {cy : Nat → ClassId} {σ : Mem} {t k i : Nat} {v : Int32} (hk : (fk t i).1 = 0) : Ev ad cy (upM σ t k (wr (σ t k) 0 i v)) (t, k, 0) = .inr (t, ((List.range (nf t)).map (fv ad σ t k)).set i (.int v)) := by
  simp only [Ev]
  congr 2
  apply List.ext_getElem?
  intro n
  have hfv : ∀ i', fv ad (upM σ t k (wr (σ t k) 0 i v)) t k i' = if i' = i then .int v else fv ad σ t k i' := by
    intro i'
    by_cases h : i' = i
    · subst h
      have hf : fk t i' = (0, (fk t i').2) := by rw [← hk]
      unfold fv
      rw [hf]
      simp [upM_same, wr_eq]
    · simp only [fv, h, if_false]
      split
      · rw [upM_same, wr_ne (fun e => h e.2)]
      · rfl
      · rfl
  by_cases h : n = i
  · subst h
    by_cases hn : n < nf t
    · simp [hn, hfv]
    · simp [hn]
  · rw [List.getElem?_set_ne (Ne.symm h)]
    simp only [List.getElem?_map]
    by_cases hn : n < nf t
    · simp [hn, hfv, h]
    · simp [hn]
theorem Ev_rowI {ad : Key → Nat} {cy : Nat → ClassId} {σ : Mem} {t k i n : Nat} {f : Nat → Int32} (hk : fk t i = (1, n)) : Ev ad cy (upM σ t k (wa (σ t k) (i + 1) f)) (t, k, i + 1) = .inl (cy 0, n, .inl f) := by
  simp [Ev, hk, upM_same, wa]
theorem Ev_rowZ {ad : Key → Nat} {cy : Nat → ClassId} {σ : Mem} {t k i n : Nat} {f : Nat → Int32} (hk : fk t i = (2, n)) : Ev ad cy (upM σ t k (wa (σ t k) (i + 1) f)) (t, k, i + 1) = .inl (cy 1, n, .inl f) := by
  simp [Ev, hk, upM_same, wa]
/-! words -/
def isNest : Cond → Bool
  | .fieldLinkNest .. => true
  | .methodLinkNest .. => true
  | _ => false
def TB : List Cond := lw_tbl.filter goodWord
def NB : List Cond := lw_tbl.filter isNest
theorem tb_of {i : Nat} {w : Cond} (h : tables_1[i]? = some w) (hg : goodWord w = true) : w ∈ TB := List.mem_filter.mpr ⟨List.mem_append_right _ (List.mem_of_getElem? h), hg⟩
theorem tb_sel {i : Nat} {w : Cond} (h : (k2_sels lw_privs)[i]? = some w) (hg : goodWord w = true) : w ∈ TB := List.mem_filter.mpr ⟨List.mem_append_left _ (List.mem_of_getElem? h), hg⟩
theorem nb_of {i : Nat} {w : Cond} (h : tables_1[i]? = some w) (hg : isNest w = true) : w ∈ NB := List.mem_filter.mpr ⟨List.mem_append_right _ (List.mem_of_getElem? h), hg⟩
theorem tb_good {w : Cond} (h : w ∈ TB) : (w.onTables && w.keeps) = true ∨ ∃ ty, w = .arrayClass ty := good_of_word (List.mem_filter.mp h).2
theorem nb_warm {s U : State} (hW : s.WarmedH U.vm) (h : ∀ w ∈ NB, va_Nw w s) : ∀ w ∈ NB, va_Nw w U := by
  intro w hw
  have h1 := h w hw
  have h2 := (List.mem_filter.mp hw).2
  cases w <;> first | (simp [isNest] at h2; done) | exact va_Nw.warmF hW h1 | exact va_Nw.warmM hW h1
theorem nb_same {s U : State} (hvm : s.vm = U.vm) (h : ∀ w ∈ NB, va_Nw w s) : ∀ w ∈ NB, va_Nw w U := by
  intro w hw
  have h1 := h w hw
  have h2 := (List.mem_filter.mp hw).2
  cases w <;> first | (simp [isNest] at h2; done) | exact va_Nw.same rfl hvm h1
theorem good_tb {w0 w1 : Cond} (h1 : w1 ∈ TB) : GoodIn (w0 :: TB) (w1 :: TB) := by
  intro w hw
  have hm : w ∈ TB := by
    rcases List.mem_cons.mp hw with h | h
    · rw [h]; exact h1
    · exact h
  exact ⟨List.mem_cons_of_mem _ hm, tb_good hm⟩
