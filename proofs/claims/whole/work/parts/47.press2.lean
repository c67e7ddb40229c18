theorem m_by (mo : Grp) {G Fb f : Nat} (hf : f < Fb) (hM : MP mo G Fb) (hR : RI G Fb (mo 14)) (hW : WC G (mo 14)) (reach : Int32) :
    fX11_sendBy mo (nI f) reach = some ((sby (mo 5) (mo 6) (mo 7) (mo 12) G Fb (mo 0 2) (mo 14 f) reach (cd (mo 12 f) (mo 14 (5 + f))) (mo 14)).1, wa mo 14 (sby (mo 5) (mo 6) (mo 7) (mo 12) G Fb (mo 0 2) (mo 14 f) reach (cd (mo 12 f) (mo 14 (5 + f))) (mo 14)).2) := by
  have hF := hM.2.2.2.1
  unfold fX11_sendBy
  simp (disch := omega) only [ix5a, ab_e, nI_clamp]
  rw [show fX11_codeOf (mo 12 f) (mo 14 (5 + f)) = some (cd (mo 12 f) (mo 14 (5 + f))) from rfl, bd_e, m_send mo hM hR hW, bd_e]
  have hlow : ∀ {j : Nat}, j < 26 → (ssend (mo 5) (mo 6) (mo 7) (mo 12) Fb (mo 14 f) reach (cd (mo 12 f) (mo 14 (5 + f))) G 0 0 (mo 14)).2 j = mo 14 j := fun hj => ssend_low _ _ _ _ hj
  have hend : ∀ s0 : Int32, fX11_sendBy_48 (wa mo 14 (ssend (mo 5) (mo 6) (mo 7) (mo 12) Fb (mo 14 f) reach (cd (mo 12 f) (mo 14 (5 + f))) G 0 0 (mo 14)).2) (nI f) (cd (mo 12 f) (mo 14 (5 + f))) (ssend (mo 5) (mo 6) (mo 7) (mo 12) Fb (mo 14 f) reach (cd (mo 12 f) (mo 14 (5 + f))) G 0 0 (mo 14)).1 s0 = some ((ssend (mo 5) (mo 6) (mo 7) (mo 12) Fb (mo 14 f) reach (cd (mo 12 f) (mo 14 (5 + f))) G 0 0 (mo 14)).1, wa mo 14 (if sfar (mo 14 f) (mo 14 15) ≤ s0 then skeep (ssend (mo 5) (mo 6) (mo 7) (mo 12) Fb (mo 14 f) reach (cd (mo 12 f) (mo 14 (5 + f))) G 0 0 (mo 14)).2 (cd (mo 12 f) (mo 14 (5 + f))) else (ssend (mo 5) (mo 6) (mo 7) (mo 12) Fb (mo 14 f) reach (cd (mo 12 f) (mo 14 (5 + f))) G 0 0 (mo 14)).2)) := by
    intro s0
    unfold fX11_sendBy_48
    rw [ab_e (by omega) (by omega), ab_l (by decide) (by decide), nI_clamp (by omega), wa_row, show (15 : Int32).toNatClampNeg = 15 from rfl, hlow (by omega), hlow (by omega), m_far, bd_e]
    by_cases h : sfar (mo 14 f) (mo 14 15) ≤ s0
    · rw [if_pos h, if_pos h, m_keep, bd_e, wa_row, wa_wa]
    · rw [if_neg h, if_neg h]
  simp only [wa_oth _ (show ¬ 0 = 14 by omega)]
  unfold sby smax
  by_cases h : reach ≤ mo 0 2
  · rw [if_pos h, if_pos h]
    exact hend _
  · rw [if_neg h, if_neg h]
    exact hend _
theorem m_step (mo : Grp) {Fb f : Nat} (hF : Fb ≤ 5) (hf : f < Fb) : fX11_stepOn mo (nI f) = some (wa mo 14 (sstep (mo 9) f (mo 14))) := by
  unfold fX11_stepOn sstep
  simp (disch := omega) only [ix5a, ab_e, nI_clamp, lt_e]
  by_cases h : mo 9 f = 3
  · rw [if_pos h, if_pos h, wr_wa]
    congr 2
    funext j
    by_cases e : j = 5 + f
    · rw [e, upd_at]
    · rw [upd_ne e]
  · rw [if_neg h, if_neg h, wr_wa]
theorem m_press (mo : Grp) {G Fb f : Nat} (hf : f < Fb) (hM : MP mo G Fb) (hR : RI G Fb (mo 14)) (hW : WC G (mo 14)) (hb : ¬ mo 14 (10 + f) = 0) :
    fX11_pressNow mo (nI f) = some ((spress (mo 5) (mo 6) (mo 7) (mo 9) (mo 11) (mo 12) G Fb (mo 0 2) f (mo 14 f) (mo 14)).1, wa mo 14 (spress (mo 5) (mo 6) (mo 7) (mo 9) (mo 11) (mo 12) G Fb (mo 0 2) f (mo 14 f) (mo 14)).2) := by
  have hF := hM.2.2.2.1
  have hbat : inN (mo 14 (10 + f) - 1) 61 := by
    obtain ⟨k, hk, he⟩ := hR.2.2.2.2.2.2.2.1 f hf
    rw [he] at hb ⊢
    have hk0 : ¬ k = 0 := fun e => hb (by rw [e]; rfl)
    exact ⟨k - 1, by omega, pk_sub (b := 1) (by omega)⟩
  -- behind the battery
  have h64 : ∀ (r : Row) (reach : Int32), RI G Fb r → WC G r → r f = mo 14 f → fX11_pressNow_64 (wa mo 14 r) (nI f) reach = some (
      (if mo 9 f = 1 then ((sby (mo 5) (mo 6) (mo 7) (mo 12) G Fb (mo 0 2) (mo 14 f) reach (cd (mo 12 f) (sstep (mo 9) f r (5 + f))) (sstep (mo 9) f r)).1 ||| (sby (mo 5) (mo 6) (mo 7) (mo 12) G Fb (mo 0 2) (mo 14 f) reach (cd (mo 12 f) (sstep (mo 9) f (sby (mo 5) (mo 6) (mo 7) (mo 12) G Fb (mo 0 2) (mo 14 f) reach (cd (mo 12 f) (sstep (mo 9) f r (5 + f))) (sstep (mo 9) f r)).2 (5 + f))) (sstep (mo 9) f (sby (mo 5) (mo 6) (mo 7) (mo 12) G Fb (mo 0 2) (mo 14 f) reach (cd (mo 12 f) (sstep (mo 9) f r (5 + f))) (sstep (mo 9) f r)).2)).1, (sby (mo 5) (mo 6) (mo 7) (mo 12) G Fb (mo 0 2) (mo 14 f) reach (cd (mo 12 f) (sstep (mo 9) f (sby (mo 5) (mo 6) (mo 7) (mo 12) G Fb (mo 0 2) (mo 14 f) reach (cd (mo 12 f) (sstep (mo 9) f r (5 + f))) (sstep (mo 9) f r)).2 (5 + f))) (sstep (mo 9) f (sby (mo 5) (mo 6) (mo 7) (mo 12) G Fb (mo 0 2) (mo 14 f) reach (cd (mo 12 f) (sstep (mo 9) f r (5 + f))) (sstep (mo 9) f r)).2)).2)
       else sby (mo 5) (mo 6) (mo 7) (mo 12) G Fb (mo 0 2) (mo 14 f) reach (cd (mo 12 f) (sstep (mo 9) f r (5 + f))) (sstep (mo 9) f r)).1,
      wa mo 14 (if mo 9 f = 1 then ((sby (mo 5) (mo 6) (mo 7) (mo 12) G Fb (mo 0 2) (mo 14 f) reach (cd (mo 12 f) (sstep (mo 9) f r (5 + f))) (sstep (mo 9) f r)).1 ||| (sby (mo 5) (mo 6) (mo 7) (mo 12) G Fb (mo 0 2) (mo 14 f) reach (cd (mo 12 f) (sstep (mo 9) f (sby (mo 5) (mo 6) (mo 7) (mo 12) G Fb (mo 0 2) (mo 14 f) reach (cd (mo 12 f) (sstep (mo 9) f r (5 + f))) (sstep (mo 9) f r)).2 (5 + f))) (sstep (mo 9) f (sby (mo 5) (mo 6) (mo 7) (mo 12) G Fb (mo 0 2) (mo 14 f) reach (cd (mo 12 f) (sstep (mo 9) f r (5 + f))) (sstep (mo 9) f r)).2)).1, (sby (mo 5) (mo 6) (mo 7) (mo 12) G Fb (mo 0 2) (mo 14 f) reach (cd (mo 12 f) (sstep (mo 9) f (sby (mo 5) (mo 6) (mo 7) (mo 12) G Fb (mo 0 2) (mo 14 f) reach (cd (mo 12 f) (sstep (mo 9) f r (5 + f))) (sstep (mo 9) f r)).2 (5 + f))) (sstep (mo 9) f (sby (mo 5) (mo 6) (mo 7) (mo 12) G Fb (mo 0 2) (mo 14 f) reach (cd (mo 12 f) (sstep (mo 9) f r (5 + f))) (sstep (mo 9) f r)).2)).2)
       else sby (mo 5) (mo 6) (mo 7) (mo 12) G Fb (mo 0 2) (mo 14 f) reach (cd (mo 12 f) (sstep (mo 9) f r (5 + f))) (sstep (mo 9) f r)).2) := by
    intro r reach hr hw hpl
    -- one step and one sending
    have one : ∀ r' : Row, RI G Fb r' → WC G r' → r' f = mo 14 f → d_bd (fX11_stepOn (wa mo 14 r') (nI f)) (fun q => fX11_sendBy q (nI f) reach) = some ((sby (mo 5) (mo 6) (mo 7) (mo 12) G Fb (mo 0 2) (mo 14 f) reach (cd (mo 12 f) (sstep (mo 9) f r' (5 + f))) (sstep (mo 9) f r')).1, wa mo 14 (sby (mo 5) (mo 6) (mo 7) (mo 12) G Fb (mo 0 2) (mo 14 f) reach (cd (mo 12 f) (sstep (mo 9) f r' (5 + f))) (sstep (mo 9) f r')).2) ∧ RI G Fb (sby (mo 5) (mo 6) (mo 7) (mo 12) G Fb (mo 0 2) (mo 14 f) reach (cd (mo 12 f) (sstep (mo 9) f r' (5 + f))) (sstep (mo 9) f r')).2 ∧ WC G (sby (mo 5) (mo 6) (mo 7) (mo 12) G Fb (mo 0 2) (mo 14 f) reach (cd (mo 12 f) (sstep (mo 9) f r' (5 + f))) (sstep (mo 9) f r')).2 ∧ (sby (mo 5) (mo 6) (mo 7) (mo 12) G Fb (mo 0 2) (mo 14 f) reach (cd (mo 12 f) (sstep (mo 9) f r' (5 + f))) (sstep (mo 9) f r')).2 f = mo 14 f := by
      intro r' hr' hw' hp'
      have hs := RI_step (fk := mo 9) hF hf hr' hw'
      have hpf : sstep (mo 9) f r' f = mo 14 f := by
        unfold sstep
        split
        · exact hp'
        · rw [upd_ne (by omega)]; exact hp'
      have hb2 := RI_by (E := mo 0 2) (place := mo 14 f) (reach := reach) (code := cd (mo 12 f) (sstep (mo 9) f r' (5 + f))) hM.2.2 hs.1 hs.2
      refine ⟨?_, hb2.1, hb2.2, ?_⟩
      · rw [m_step (wa mo 14 r') hF hf, bd_e, wa_row, wa_wa, wa_oth _ (by omega)]
        have e := m_by (wa mo 14 (sstep (mo 9) f r')) (G := G) hf (MP_row hM _) (by rw [wa_row]; exact hs.1) (by rw [wa_row]; exact hs.2) reach
        rw [wa_row, wa_wa, wa_oth _ (by omega), wa_oth _ (by omega), wa_oth _ (by omega), wa_oth _ (by omega), wa_oth _ (by omega), hpf] at e
        exact e
      · unfold sby
        dsimp only
        split
        · rw [skeep_keep (by omega), ssend_low _ _ _ _ (by omega), hpf]
        · rw [ssend_low _ _ _ _ (by omega), hpf]
    obtain ⟨o1, o2, o3, o4⟩ := one r hr hw hpl
    obtain ⟨p1, p2, p3, p4⟩ := one _ o2 o3 o4
    obtain ⟨q7, e7, e8⟩ := d_bd_some o1
    unfold fX11_pressNow_64
    rw [e7, bd_e, e8, bd_e, ab_e (by omega) (by omega), nI_clamp (by omega)]
    simp only [wa_oth _ (show ¬ 9 = 14 by omega)]
    by_cases h1 : mo 9 f = 1
    · rw [if_pos h1, if_pos h1]
      obtain ⟨q9, e9, e10⟩ := d_bd_some p1
      rw [e9, bd_e, e10, bd_e, lt_e]
    · rw [if_neg h1, if_neg h1]
  have r0 := RI_10 (v := mo 14 (10 + f) - 1) hF hR (show f < 5 by omega) hbat
  have w0 : WC G (upd (mo 14) (10 + f) (mo 14 (10 + f) - 1)) := WC_upd hW (by omega)
  have hpl0 : upd (mo 14) (10 + f) (mo 14 (10 + f) - 1) f = mo 14 f := upd_ne (by omega)
  unfold fX11_pressNow fX11_pressNow_41 spress
  simp (disch := omega) only [ix10, ab_e, nI_clamp, lt_e, wr_wa, wa_row, wa_oth _ (show ¬ 9 = 14 by omega)]
  unfold fX11_pressNow_42
  simp (disch := omega) only [ab_e, nI_clamp, wa_oth _ (show ¬ 11 = 14 by omega)]
  rw [if_neg (show ¬ (1 : Int32) = 0 by decide)]
  by_cases h2 : mo 9 f = 2
  · rw [if_pos h2]
    by_cases h20 : upd (mo 14) (10 + f) (mo 14 (10 + f) - 1) (10 + f) < 20
    · have e : sreach (mo 9) (mo 11) f (upd (mo 14) (10 + f) (mo 14 (10 + f) - 1)) = mo 11 f / 2 := if_pos ⟨h2, h20⟩
      rw [if_pos h20, e]
      exact h64 _ _ r0 w0 hpl0
    · have e : sreach (mo 9) (mo 11) f (upd (mo 14) (10 + f) (mo 14 (10 + f) - 1)) = mo 11 f := if_neg (fun e => h20 e.2)
      rw [if_neg h20, e]
      exact h64 _ _ r0 w0 hpl0
  · have e : sreach (mo 9) (mo 11) f (upd (mo 14) (10 + f) (mo 14 (10 + f) - 1)) = mo 11 f := if_neg (fun e => h2 e.1)
    rw [if_neg h2, e]
    exact h64 _ _ r0 w0 hpl0
