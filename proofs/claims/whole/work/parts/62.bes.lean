/-! a press next to a gate -/
def sbes (kd wn fk sec : Row) (Fb g f : Nat) (r : Row) : Int32 × Row :=
  let r1 := sstep fk f r
  let q1 := shears kd wn sec Fb r1 g (cd (sec f) (r1 (5 + f)))
  if fk f = 1 then
    let r2 := sstep fk f q1.2
    let q2 := shears kd wn sec Fb r2 g (cd (sec f) (r2 (5 + f)))
    (q1.1 ||| q2.1, q2.2)
  else q1
theorem or01 {a b : Int32} (ha : a = 0 ∨ a = 1) (hb : b = 0 ∨ b = 1) : (a ||| b = 0 ∨ a ||| b = 1) ∧ (if b = 0 then (if a = 0 then (0 : Int32) else 1) else 1) = a ||| b := by
  rcases ha with rfl | rfl <;> rcases hb with rfl | rfl <;> decide
theorem RI_bes {G Fb g f : Nat} {kd pc wn fk fr sec r : Row} (hp : PI G Fb kd pc wn fk fr sec) (hg : g < G) (hf : f < Fb) (h : RI G Fb r) (hw : WC G r) : RI G Fb (sbes kd wn fk sec Fb g f r).2 ∧ WC G (sbes kd wn fk sec Fb g f r).2 ∧ ((sbes kd wn fk sec Fb g f r).1 = 0 ∨ (sbes kd wn fk sec Fb g f r).1 = 1) := by
  have hF := hp.2.1
  have hs := RI_step (fk := fk) hF hf h hw
  have h1 := RI_hears (g := g) (code := cd (sec f) (sstep fk f r (5 + f))) hp hs.1 hs.2 hg
  unfold sbes
  dsimp only
  split
  · have hs2 := RI_step (fk := fk) hF hf h1.1 h1.2.1
    have h2 := RI_hears (g := g) (code := cd (sec f) (sstep fk f (shears kd wn sec Fb (sstep fk f r) g (cd (sec f) (sstep fk f r (5 + f)))).2 (5 + f))) hp hs2.1 hs2.2 hg
    exact ⟨h2.1, h2.2.1, (or01 h1.2.2 h2.2.2).1⟩
  · exact h1
theorem m_bes (mo : Grp) {G Fb g f : Nat} (hM : MP mo G Fb) (hg : g < G) (hf : f < Fb) (h : RI G Fb (mo 14)) (hw : WC G (mo 14)) : fX11_opensNextTo mo (nI g) (nI f) = some ((sbes (mo 5) (mo 7) (mo 9) (mo 12) Fb g f (mo 14)).1, wa mo 14 (sbes (mo 5) (mo 7) (mo 9) (mo 12) Fb g f (mo 14)).2) := by
  have hF := hM.2.2.2.1
  -- one step and one hearing
  have one : ∀ r : Row, RI G Fb r → WC G r → d_bd (fX11_stepOn (wa mo 14 r) (nI f)) (fun q => d_ab (nI f) 5 <| d_ab ((5 : Int32) + nI f) 59 <| d_bd (fX11_codeOf (q 12 (nI f).toNatClampNeg) (q 14 ((5 : Int32) + nI f).toNatClampNeg)) fun q4 => fX11_hears q (nI g) q4) = some ((shears (mo 5) (mo 7) (mo 12) Fb (sstep (mo 9) f r) g (cd (mo 12 f) (sstep (mo 9) f r (5 + f)))).1, wa mo 14 (shears (mo 5) (mo 7) (mo 12) Fb (sstep (mo 9) f r) g (cd (mo 12 f) (sstep (mo 9) f r (5 + f)))).2) := by
    intro r hr hw'
    have hs := RI_step (fk := mo 9) hF hf hr hw'
    rw [m_step (wa mo 14 r) hF hf, bd_e, wa_row, wa_wa, wa_oth _ (show ¬ 9 = 14 by omega), ix5a, ab_e (by omega) (by omega), ab_e (by omega) (by omega), nI_clamp (by omega), nI_clamp (by omega), wa_row, wa_oth _ (show ¬ 12 = 14 by omega)]
    show d_bd (some (cd _ _)) _ = _
    rw [bd_e]
    have e := m_hears (wa mo 14 (sstep (mo 9) f r)) hg (MP_row hM _) (by rw [wa_row]; exact hs.1) (cd (mo 12 f) (sstep (mo 9) f r (5 + f)))
    rw [wa_row, wa_wa, wa_oth _ (show ¬ 5 = 14 by omega), wa_oth _ (show ¬ 7 = 14 by omega), wa_oth _ (show ¬ 12 = 14 by omega)] at e
    exact e
  have o1 := one (mo 14) h hw
  rw [wa_self] at o1
  obtain ⟨q1, e1, e2⟩ := d_bd_some o1
  have hs := RI_step (fk := mo 9) hF hf h hw
  have h1 := RI_hears (g := g) (code := cd (mo 12 f) (sstep (mo 9) f (mo 14) (5 + f))) hM.2.2 hs.1 hs.2 hg
  have o2 := one _ h1.1 h1.2.1
  obtain ⟨q2, e3, e4⟩ := d_bd_some o2
  have hs2 := RI_step (fk := mo 9) hF hf h1.1 h1.2.1
  have h2 := RI_hears (g := g) (code := cd (mo 12 f) (sstep (mo 9) f (shears (mo 5) (mo 7) (mo 12) Fb (sstep (mo 9) f (mo 14)) g (cd (mo 12 f) (sstep (mo 9) f (mo 14) (5 + f)))).2 (5 + f))) hM.2.2 hs2.1 hs2.2 hg
  rw [ix5a, ab_e (by omega) (by omega), ab_e (by omega) (by omega)] at e2 e4
  unfold fX11_opensNextTo fX11_opensNextTo_72 sbes
  dsimp only
  rw [e1, bd_e, ix5a, ab_e (by omega) (by omega), ab_e (by omega) (by omega)]
  obtain ⟨c1, d1, d2⟩ := d_bd_some e2
  rw [d1, bd_e, d2, bd_e, ab_e (by omega) (by omega), nI_clamp (by omega)]
  simp only [wa_oth _ (show ¬ 9 = 14 by omega)]
  by_cases hk : mo 9 f = 1
  · rw [if_pos hk, if_pos hk, e3, bd_e, ab_e (by omega) (by omega), ab_e (by omega) (by omega)]
    obtain ⟨c2, d3, d4⟩ := d_bd_some e4
    rw [nI_clamp (by omega)] at d3
    rw [d3, bd_e, d4, bd_e]
    have ho := (or01 h1.2.2 h2.2.2).2
    rw [← ho]
    by_cases z2 : (shears (mo 5) (mo 7) (mo 12) Fb (sstep (mo 9) f (shears (mo 5) (mo 7) (mo 12) Fb (sstep (mo 9) f (mo 14)) g (cd (mo 12 f) (sstep (mo 9) f (mo 14) (5 + f)))).2) g (cd (mo 12 f) (sstep (mo 9) f (shears (mo 5) (mo 7) (mo 12) Fb (sstep (mo 9) f (mo 14)) g (cd (mo 12 f) (sstep (mo 9) f (mo 14) (5 + f)))).2 (5 + f)))).1 = 0
    · rw [if_pos z2, if_pos z2]
      by_cases z1 : (shears (mo 5) (mo 7) (mo 12) Fb (sstep (mo 9) f (mo 14)) g (cd (mo 12 f) (sstep (mo 9) f (mo 14) (5 + f)))).1 = 0
      · rw [if_pos z1, if_pos z1]
      · rw [if_neg z1, if_neg z1]
    · rw [if_neg z2, if_neg z2]
  · rw [if_neg hk, if_neg hk, zb_e h1.2.2]
theorem c_bes (sc pl : Grp) {G Fb g f : Nat} (hM : CP pl G Fb) (hg : g < G) (hf : f < Fb) (h : RI G Fb (toRow sc)) (hw : WC G (toRow sc)) : ∃ sc', fX7_opensBeside sc pl (nI g) (nI f) = some ((sbes (pl 6) (pl 8) (pl 9) (pl 12) Fb g f (toRow sc)).1, sc') ∧ toRow sc' = (sbes (pl 6) (pl 8) (pl 9) (pl 12) Fb g f (toRow sc)).2 := by
  have hF := hM.2.2.2.1
  have one : ∀ (s : Grp) (x3 x4 : Int32) (fu : Nat), RI G Fb (toRow s) → WC G (toRow s) → x4 < (if pl 9 f = 1 then 2 else 1) → ∃ s', fX7_opensBeside_5 pl (fu + 1) s (nI g) (nI f) x3 x4 = fX7_opensBeside_5 pl fu s' (nI g) (nI f) (x3 ||| (shears (pl 6) (pl 8) (pl 12) Fb (sstep (pl 9) f (toRow s)) g (cd (pl 12 f) (sstep (pl 9) f (toRow s) (5 + f)))).1) (x4 + 1) ∧ toRow s' = (shears (pl 6) (pl 8) (pl 12) Fb (sstep (pl 9) f (toRow s)) g (cd (pl 12 f) (sstep (pl 9) f (toRow s) (5 + f)))).2 := by
    intro s x3 x4 fu hr hw' hx
    obtain ⟨s1, e1, e2⟩ := c_next s pl hF hf hr hw'
    have hs := RI_step (fk := pl 9) hF hf hr hw'
    obtain ⟨s2, e3, e4⟩ := c_hears s1 pl hg hM (by rw [e2]; exact hs.1) (cd (pl 12 f) (sstep (pl 9) f (toRow s) (5 + f)))
    rw [e2] at e3 e4
    refine ⟨s2, ?_, e4⟩
    rw [fX7_opensBeside_5, c_sendings pl (by omega), bd_e, if_pos hx, e1, bd_e, e3, bd_e, lt_e, lt_e]
  have hs := RI_step (fk := pl 9) hF hf h hw
  have h1 := RI_hears (g := g) (code := cd (pl 12 f) (sstep (pl 9) f (toRow sc) (5 + f))) hM.2.2 hs.1 hs.2 hg
  obtain ⟨s1, e1, e2⟩ := one sc 0 0 999 h hw (by split <;> decide)
  unfold fX7_opensBeside sbes
  dsimp only
  rw [show 1000 = 999 + 1 from rfl, e1, show ∀ z : Int32, (0 : Int32) ||| z = z from fun z => Int32.zero_or, show (0 : Int32) + 1 = 1 from rfl]
  by_cases hk : pl 9 f = 1
  · obtain ⟨s2, e3, e4⟩ := one s1 (shears (pl 6) (pl 8) (pl 12) Fb (sstep (pl 9) f (toRow sc)) g (cd (pl 12 f) (sstep (pl 9) f (toRow sc) (5 + f)))).1 1 998 (by rw [e2]; exact h1.1) (by rw [e2]; exact h1.2.1) (by rw [if_pos hk]; decide)
    rw [e2] at e3 e4
    have hs2 := RI_step (fk := pl 9) hF hf h1.1 h1.2.1
    have h2 := RI_hears (g := g) (code := cd (pl 12 f) (sstep (pl 9) f (shears (pl 6) (pl 8) (pl 12) Fb (sstep (pl 9) f (toRow sc)) g (cd (pl 12 f) (sstep (pl 9) f (toRow sc) (5 + f)))).2 (5 + f))) hM.2.2 hs2.1 hs2.2 hg
    rw [if_pos hk, show 999 = 998 + 1 from rfl, e3, show 998 = 997 + 1 from rfl, fX7_opensBeside_5, c_sendings pl (by omega), bd_e, if_pos hk, if_neg (by decide), zb_e (or01 h1.2.2 h2.2.2).1]
    exact ⟨s2, rfl, e4⟩
  · rw [if_neg hk, show 999 = 998 + 1 from rfl, fX7_opensBeside_5, c_sendings pl (by omega), bd_e, if_neg hk, if_neg (by decide), zb_e h1.2.2]
    exact ⟨s1, rfl, e2⟩
theorem cg_bes {G Fb g f : Nat} {kd pc wn fk fr sec kd' pc' wn' fk' fr' sec' rc rm : Row} (hp : PI G Fb kd' pc' wn' fk' fr' sec') (hA : AG G Fb kd pc wn fk fr sec kd' pc' wn' fk' fr' sec') (hR : RR G Fb rc rm) (hI : RI G Fb rm) (hW : WC G rm) (hg : g < G) (hf : f < Fb) : (sbes kd wn fk sec Fb g f rc).1 = (sbes kd' wn' fk' sec' Fb g f rm).1 ∧ RR G Fb (sbes kd wn fk sec Fb g f rc).2 (sbes kd' wn' fk' sec' Fb g f rm).2 := by
  have hF := hp.2.1
  have hR1 := cg_step (fk := fk) (fk' := fk') hF hf (hA.2 f hf).1 hR
  have i1 := RI_step (fk := fk') hF hf hI hW
  have c1 := cg_hears hp hA hR1 i1.1 hg (cd (sec' f) (sstep fk' f rm (5 + f)))
  have hcode : cd (sec f) (sstep fk f rc (5 + f)) = cd (sec' f) (sstep fk' f rm (5 + f)) := by rw [(hA.2 f hf).2.2, hR1.1 _ (ok5 hF hf)]
  unfold sbes
  dsimp only
  rw [hcode, (hA.2 f hf).1]
  by_cases h1 : fk' f = 1
  · rw [if_pos h1, if_pos h1]
    have i2 := RI_hears (g := g) (code := cd (sec' f) (sstep fk' f rm (5 + f))) hp i1.1 i1.2 hg
    have hR2 := cg_step (fk := fk) (fk' := fk') hF hf (hA.2 f hf).1 c1.2
    have i3 := RI_step (fk := fk') hF hf i2.1 i2.2.1
    have c2 := cg_hears hp hA hR2 i3.1 hg (cd (sec' f) (sstep fk' f (shears kd' wn' sec' Fb (sstep fk' f rm) g (cd (sec' f) (sstep fk' f rm (5 + f)))).2 (5 + f)))
    dsimp only
    rw [hR2.1 _ (ok5 hF hf), (hA.2 f hf).2.2, c1.1]
    exact ⟨by rw [c2.1], c2.2⟩
  · rw [if_neg h1, if_neg h1]
    exact c1
/-- one press next to a gate, by both -/
theorem bes2 {G Fb g f : Nat} {pl mo sc : Grp} (hP : Pn G Fb pl mo) (hS : S3 G Fb (toRow sc) (mo 14)) (hg : g < G) (hf : f < Fb) : ∃ (r : Int32) (sc' : Grp) (rm : Row), (r = 0 ∨ r = 1) ∧ fX7_opensBeside sc pl (nI g) (nI f) = some (r, sc') ∧ fX11_opensNextTo mo (nI g) (nI f) = some (r, wa mo 14 rm) ∧ S3 G Fb (toRow sc') rm := by
  have hF := hP.1.2.2.2.1
  have hRc := RR_RI hF hS.1 hS.2.1
  have hWc := RR_WC hS.1 hS.2.2
  obtain ⟨sc', e1, e2⟩ := c_bes sc pl hP.1 hg hf hRc hWc
  have em := m_bes mo hP.2.1 hg hf hS.2.1 hS.2.2
  have cg := cg_bes hP.2.1.2.2 (AG_self hP) hS.1 hS.2.1 hS.2.2 hg hf
  have hI := RI_bes hP.2.1.2.2 hg hf hS.2.1 hS.2.2
  refine ⟨_, sc', _, hI.2.2, ?_, em, ?_⟩
  · rw [e1, cg.1]
  · rw [e2]
    exact ⟨cg.2, hI.1, hI.2.1⟩
theorem takes2 {G Fb g f : Nat} (hg : g < G) (hf : f < Fb) {σ : Mem} {mo : Grp} (B : Row) (hP : Pn G Fb (σ 4 0) mo) : ∀ (n k fu : Nat) (sc : Grp) (r : Row), k + n = 11 → n + 2 ≤ fu → S3 G Fb (toRow sc) r → ∃ (res : Int32) (X : Grp) (r' : Row), fX10_takes_25 fu (upM σ 7 1 sc) (nI g) (nI f) (nI k) = some (res, upM σ 7 1 X) ∧ fX11_takes_28 fu (wa (wa mo 35 B) 14 r) (nI g) (nI f) (-1) (nI k) = d_bd (fX11_putBack (wa (wa mo 35 B) 14 r')) (fun q => some (res, q)) := by
  intro n
  induction n with
  | zero =>
    intro k fu sc r hk hfu hS
    obtain ⟨fu, rfl⟩ : ∃ z, fu = z + 1 := ⟨fu - 1, by omega⟩
    obtain rfl : k = 11 := by omega
    rw [fX10_takes_25, fX11_takes_28, if_neg (show ¬ nI 11 ≤ 10 by decide), if_neg (show ¬ nI 11 ≤ 10 by decide)]
    exact ⟨_, sc, r, rfl, rfl⟩
  | succ n ih =>
    intro k fu sc r hk hfu hS
    obtain ⟨fu, rfl⟩ : ∃ z, fu = z + 1 := ⟨fu - 1, by omega⟩
    have hle : nI k ≤ 10 := nI_le (b := 10) (by omega) (by omega)
    obtain ⟨b, sc', rm, hb, e1, e2, hS'⟩ := bes2 (mo := wa (wa mo 35 B) 14 r) (sc := sc) (pl := σ 4 0) hP (by rw [wa_row]; exact hS) hg hf
    rw [fX10_takes_25, fX11_takes_28, if_pos hle, if_pos hle, if_pos (show (-1 : Int32) < 0 by decide), upM_same, show upM σ 7 1 sc 4 0 = σ 4 0 from rfl, e1, e2, bd_e, bd_e, lt_e, lt_e, lt_e, ix1, upM_upM, wa_wa]
    rcases hb with rfl | rfl
    · rw [if_pos i00, if_pos i00, ← ix1 k, lt_e, ix1]
      exact ih (k + 1) fu sc' rm (by omega) (by omega) hS'
    · rw [if_neg i10, if_neg i10]
      obtain ⟨fu, rfl⟩ : ∃ z, fu = z + 1 := ⟨fu - 1, by omega⟩
      refine ⟨_, sc', rm, rfl, ?_⟩
      show fX11_takes_28 (fu + 1) (wa (wa mo 35 B) 14 rm) (nI g) (nI f) (nI k) (nI (k + 1)) = _
      unfold fX11_takes_28 fX11_takes_61
      rw [if_neg (show ¬ nI k < 0 from nI_pos (by omega))]
      by_cases hc : nI (k + 1) ≤ 10
      · rw [if_pos hc]
      · rw [if_neg hc]
theorem w_takes {G Fb : Nat} {σ : Mem} (h : INV G Fb σ) (x y : Int32) : SW (fX10_takes σ x y) (fX11_takes (σ 11 0) x y) σ := by
  have hF := h.1.1.2.2.2.1
  unfold fX10_takes fX11_takes
  rcases known2 h.1 x y with ⟨g, f, hg, hf, rfl, rfl, a1, a2, a3⟩ | ⟨a1, a2⟩
  · rw [a1, a2, bd_e, bd_e, if_neg i10, if_neg i10, a3, bd_e, if_neg i10]
    obtain ⟨t, c1, c2⟩ := c_copy (σ 7 1) (σ 7 0)
    rw [c1, bd_e, lt_e, m_keepNow, bd_e]
    obtain ⟨res, X, r', e1, e2⟩ := takes2 (σ := σ) (mo := σ 11 0) hg hf (cpyN (σ 11 0 14) (σ 11 0 35) 59) h.1 10 1 1000 t (σ 11 0 14) (by omega) (by omega) (by rw [c2]; exact ⟨h.2.1.1, h.2.1.2.1, h.2.1.2.2.1⟩)
    rw [show wa (wa (σ 11 0) 35 (cpyN (σ 11 0 14) (σ 11 0 35) 59)) 14 (σ 11 0 14) = wa (σ 11 0) 35 (cpyN (σ 11 0 14) (σ 11 0 35) 59) from wa_self (wa (σ 11 0) 35 (cpyN (σ 11 0 14) (σ 11 0 35) 59)) 14] at e2
    rw [show nI 1 = (1 : Int32) from rfl] at e1 e2
    rw [e1, e2, m_putBack, bd_e]
    refine ⟨_, _, _, rfl, rfl, rfl, G, Fb, ?_⟩
    rw [wa_wa, wa_oth _ (show ¬ 35 = 14 by omega), wa_row, wa_row]
    refine INV_try (INV_self h) X (fun i hi => ?_)
    simp [cpyN, hi]
  · refine SW_no h (r := -1000000001) (by rw [a1, bd_e, if_pos i00]) ?_
    rcases a2 with a2 | ⟨a2, a3⟩
    · rw [a2, bd_e, if_pos i00]
    · rw [a2, bd_e, if_neg i10, a3, bd_e, if_pos i00]
