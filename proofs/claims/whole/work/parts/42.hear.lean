theorem m_open (mo : Grp) {g f : Nat} (hg : g < 4) (hf : f < 5) (c : Int32) : fX11_openBy mo (nI g) (nI f) c = some (wa mo 14 (sopen (mo 14) g f c)) := by
  unfold fX11_openBy
  simp (disch := omega) only [ix38, ix26, ix30, ix34, ab_e, nI_clamp, lt_e]
  simp only [wr_wa, wa_row, wa_wa]
  congr 2
  unfold sopen
  rw [upd_ne (by omega)]
  by_cases h : mo 14 (26 + g) < 9999
  · rw [if_pos h, if_pos h]
  · rw [if_neg h, if_neg h]
    rw [show mo 14 (26 + g) + 0 = mo 14 (26 + g) from Int32.add_zero _]
theorem m_awaited (mo : Grp) {g Fb : Nat} (hg : g < 4) (hF : Fb ≤ 5) (hw : mo 14 (30 + g) = -1 ∨ inN (mo 14 (30 + g)) Fb) (code : Int32) : fX11_isAwaited mo (nI g) code = some (if ¬ mo 14 (30 + g) = -1 ∧ cd (mo 12 (mo 14 (30 + g)).toNatClampNeg) (mo 14 (34 + g)) = code then 1 else 0) := by
  unfold fX11_isAwaited
  simp (disch := omega) only [ix30, ix34, ab_e, nI_clamp, lt_e]
  rcases hw with hw | hw
  · rw [if_pos hw, if_neg (fun e => e.1 hw)]
  · have hne := hw.ne (by omega)
    obtain ⟨k, hk, he⟩ := hw
    rw [if_neg hne, he]
    simp (disch := omega) only [ab_e, nI_clamp]
    show d_bd (some (cd _ _)) _ = _
    rw [bd_e]
    rw [he] at hne
    by_cases h : cd (mo 12 k) (mo 14 (34 + g)) = code
    · rw [if_pos h, if_pos ⟨hne, h⟩]
    · rw [if_neg h, if_neg (fun e => h e.2)]
/-- the plan's part of the model, as the words of the document take it -/
def MP (mo : Grp) (G Fb : Nat) : Prop := mo 0 3 = nI G ∧ mo 0 7 = nI Fb ∧ PI G Fb (mo 5) (mo 6) (mo 7) (mo 9) (mo 11) (mo 12)
theorem mt_val {kd wn sec r : Row} {g f : Nat} {code : Int32} (hw : inN (wn g) 33) : mt kd wn sec r g f code = -1 ∨ inN (mt kd wn sec r g f code) 33 := by
  have hb := mt_args (kd := kd) hw
  have h := mtc_val (sec f) (r (38 + 5 * g + f)) code (if kd g = 1 then 1 else wn g) (by omega) 1000 (if kd g = 2 then 0 else 1) (by split <;> decide)
  rcases h with h | ⟨h1, h2⟩
  · exact Or.inl h
  · refine Or.inr ?_
    have h3 := Int32.le_iff_toInt_le.mp h1
    have h4 := Int32.le_iff_toInt_le.mp h2
    have h0 : (0 : Int32).toInt = 0 := rfl
    rw [h0] at h3
    refine ⟨(mt kd wn sec r g f code).toNatClampNeg, ?_, ?_⟩
    · have : (mt kd wn sec r g f code).toInt ≤ 32 := by unfold mt; omega
      have : (mt kd wn sec r g f code).toNatClampNeg = (mt kd wn sec r g f code).toInt.toNat := rfl
      omega
    · have h5 : 0 ≤ (mt kd wn sec r g f code).toInt := h3
      have h6 : (mt kd wn sec r g f code).toInt ≤ 32 := by unfold mt; omega
      apply Int32.toInt_inj.mp
      have h7 : (mt kd wn sec r g f code).toNatClampNeg = (mt kd wn sec r g f code).toInt.toNat := rfl
      rw [nI_toInt (by omega)]
      omega
theorem m_hears39 (mo : Grp) {g G Fb : Nat} (hg : g < G) (hM : MP mo G Fb) (code : Int32) : ∀ (n f fu : Nat), f + n = Fb → n + 2 ≤ fu →
    fX11_hears_39 fu mo (nI g) code (nI f) (-1) = (match sfind (mo 5) (mo 7) (mo 12) (mo 14) g code n f with
      | none => some (0, mo)
      | some f => fX11_hears_77 mo (nI g) (nI f) (mt (mo 5) (mo 7) (mo 12) (mo 14) g f code)) := by
  obtain ⟨h3, h7, hG, hF, hgs, hfs⟩ := hM
  intro n
  induction n with
  | zero =>
    intro f fu h1 h2
    obtain ⟨fu, rfl⟩ : ∃ z, fu = z + 1 := ⟨fu - 1, by omega⟩
    unfold fX11_hears_39 sfind
    rw [h7, if_neg (nI_nlt (by omega) (by omega))]
    rfl
  | succ n ih =>
    intro f fu h1 h2
    obtain ⟨fu, rfl⟩ : ∃ z, fu = z + 1 := ⟨fu - 1, by omega⟩
    unfold fX11_hears_39 sfind
    rw [h7, if_pos (nI_lt (by omega) (by omega)), if_pos (by decide), m_match mo (by omega) (by omega) (hgs g hg).2.2.1, bd_e]
    by_cases h : mt (mo 5) (mo 7) (mo 12) (mo 14) g f code = -1
    · rw [h, if_pos rfl]
      simp only [lt_e]
      rw [if_pos (by decide), ix1]
      exact ih (f + 1) fu (by omega) (by omega)
    · rw [if_neg h]
      have hv : inN (mt (mo 5) (mo 7) (mo 12) (mo 14) g f code) 33 := (mt_val (hgs g hg).2.2.1).resolve_left h
      obtain ⟨k, hk, he⟩ := hv
      rw [he]
      simp only [lt_e]
      rw [if_neg (nI_pos (by omega)), show nI f + 0 = nI f from Int32.add_zero _]
      obtain ⟨fu, rfl⟩ : ∃ z, fu = z + 1 := ⟨fu - 1, by omega⟩
      unfold fX11_hears_39
      rw [h7, if_pos (nI_lt (by omega) (by omega)), if_neg (nI_pos (by omega))]
      show fX11_hears_77 mo (nI g) (nI f) (nI k) = fX11_hears_77 mo (nI g) (nI f) (mt (mo 5) (mo 7) (mo 12) (mo 14) g f code)
      rw [he]
theorem sfind_lt {kd wn sec r : Row} {g : Nat} {code : Int32} : ∀ (n f f' : Nat), sfind kd wn sec r g code n f = some f' → f' < f + n ∧ ¬ mt kd wn sec r g f' code = -1 := by
  intro n
  induction n with
  | zero => intro f f' h; cases h
  | succ n ih =>
    intro f f' h
    unfold sfind at h
    split at h
    · have := ih _ _ h
      exact ⟨by omega, this.2⟩
    · rename_i hh
      cases h
      exact ⟨by omega, hh⟩
theorem m_hears (mo : Grp) {g G Fb : Nat} (hg : g < G) (hM : MP mo G Fb) (hR : RI G Fb (mo 14)) (code : Int32) :
    fX11_hears mo (nI g) code = some ((shears (mo 5) (mo 7) (mo 12) Fb (mo 14) g code).1, wa mo 14 (shears (mo 5) (mo 7) (mo 12) Fb (mo 14) g code).2) := by
  have hM' := hM
  obtain ⟨h3, h7, hG, hF, hgs, hfs⟩ := hM
  unfold fX11_hears
  rw [m_awaited mo (by omega) hF (hR.2.1 g (by omega)), bd_e]
  unfold shears
  by_cases h : ¬ mo 14 (30 + g) = -1 ∧ cd (mo 12 (mo 14 (30 + g)).toNatClampNeg) (mo 14 (34 + g)) = code
  · rw [if_pos h, if_pos h, if_neg (by decide)]
    obtain ⟨e1, e2⟩ := ((hR.2.1 g (by omega)).resolve_left h.1).nI (by omega)
    simp (disch := omega) only [ix30, ix34, ab_e, nI_clamp]
    rw [e1, m_open mo (by omega) (by omega), bd_e, nI_clamp (by omega)]
  · rw [if_neg h, if_neg h, if_pos rfl]
    have e := m_hears39 mo hg hM' code Fb 0 1000 (by omega) (by omega)
    rw [show nI 0 = (0 : Int32) from rfl] at e
    rw [e]
    cases hs : sfind (mo 5) (mo 7) (mo 12) (mo 14) g code Fb 0 with
    | none =>
      show some ((0 : Int32), mo) = some (0, wa mo 14 (mo 14))
      rw [wa_self]
    | some f =>
      obtain ⟨hf, hne⟩ := sfind_lt _ _ _ hs
      obtain ⟨k, hk, he⟩ := (mt_val (kd := mo 5) (sec := mo 12) (r := mo 14) (f := f) (code := code) (hgs g hg).2.2.1).resolve_left hne
      simp only [he]
      unfold fX11_hears_77 fX11_hears_126
      rw [if_neg (nI_pos (by omega))]
      simp (disch := omega) only [ix38, ab_e, nI_clamp, lt_e]
      by_cases h4 : mo 5 g = 3
      · rw [if_pos h4]
        by_cases h5 : nI k ≤ 4
        · rw [if_pos h5, if_neg (fun e => e.2 h5)]
          unfold fX11_hears_127 fX11_hears_172
          rw [if_pos rfl, m_open mo (by omega) (by omega), bd_e, if_pos rfl]
        · rw [if_neg h5, if_pos ⟨h4, h5⟩]
          unfold fX11_hears_127 fX11_hears_172
          rw [if_neg (by decide)]
          simp (disch := omega) only [ix30, ix34, ab_e, nI_clamp, lt_e]
          rw [if_neg (by decide)]
          simp only [wr_wa, wa_row, wa_wa]
      · rw [if_neg h4, if_neg (fun e => h4 e.1)]
        unfold fX11_hears_127 fX11_hears_172
        rw [if_pos rfl, m_open mo (by omega) (by omega), bd_e, if_pos rfl]
