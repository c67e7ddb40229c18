/-- a gate's three numbers -/
theorem gate2 {tx mo0 : Grp} {T : Row} {n a g : Nat} (hg : g < 4) (h : Ct tx T n) (rd mo : Grp) (hT : mo 16 = T) (ha : a ≤ n) {z y : Row} (hz : z 2 = nI a) (hz3 : z 3 = 0) (h16 : y 16 = nI n) (h18 : y 18 = nI a) (hs : y 22 = nI g) (hM : FrM mo0 mo) (hY : FrY mo0 y) :
    (∃ (a' v0 v1 v2 : Nat) (y' : Row), a ≤ a' ∧ a' ≤ n ∧ (0 ≤ v0 ∧ v0 ≤ 3 ∧ 0 ≤ v1 ∧ v1 ≤ 9 ∧ 1 ≤ v2 ∧ v2 ≤ 32) ∧ fX5_readNumbers (wa rd 0 z) tx 3 2 = some (wa (wr (wr (wr rd 2 0 (nI v0)) 2 1 (nI v1)) 2 2 (nI v2)) 0 (upd z 2 (nI a'))) ∧ fX11_takeGate (wa mo 0 y) = some (0, wa (wr (wr (wr mo 24 g (nI v0)) 25 g (nI v1)) 26 g (nI v2)) 0 y') ∧ y' 18 = nI a' ∧ y' 22 = nI (g + 1) ∧ ∀ i, ¬ i = 18 → ¬ i = 19 → ¬ i = 22 → y' i = y i) ∨
    Fl n mo0 (fX5_readNumbers (wa rd 0 z) tx 3 2) (fX11_takeGate (wa mo 0 y)) := by
  unfold fX5_readNumbers fX11_takeGate
  rw [wa_row, hs, lt_e, lt_e, ix1, wa_wr0]
  rcases into2 (a2 := 3) (a3 := 2) (i := 0) (c := 23) (n1 := 4) (x := g) (l := 0) (u := 3) (fu := 999) (a := a) (mo0 := mo0) h (rd) (mo) hT ha (by omega) (by decide) (by decide) rfl rfl (by omega) (by omega) (by omega) hg (by omega) (z := z) (y := upd y 22 (nI (g + 1))) hz hz3 (by rw [upd_ne (by omega)]; exact h16) (by rw [upd_ne (by omega)]; exact h18) (by omega) hM (FrY_upd hY (by omega) _) with ⟨a1, v0, p0, q0, r0, s0, t0, u0⟩ | hf
  · rw [show (0 : Int32) = nI 0 from rfl, t0, show nI 0 = (0 : Int32) from rfl]
    rw [show fX11_into (wa (mo) 0 (upd y 22 (nI (g + 1)))) 23 4 (nI g) 0 3 = _ from u0, bd_e]
    dsimp only
    rw [ite0]
    rcases into2 (a2 := 3) (a3 := 2) (i := 0 + 1) (c := 24) (n1 := 4) (x := g) (l := 0) (u := 9) (fu := 998) (a := a1) (mo0 := mo0) h (wr (rd) 2 (0) (nI v0)) (wr (mo) 24 g (nI v0)) (hT_wr hT (by omega) _ _) q0 (by omega) (by decide) (by decide) rfl rfl (by omega) (by omega) (by omega) hg (by omega) (z := upd (z) 2 (nI a1)) (y := upd (upd (upd y 22 (nI (g + 1))) 18 (nI a1)) 19 (nI v0)) (by rw [upd_at]) (by rw [upd_ne (by omega)]; exact hz3) (by rw [upd_ne (by omega), upd_ne (by omega), upd_ne (by omega)]; exact h16) (by rw [upd_ne (by omega), upd_at]) (by omega) (FrM_wr hM (by omega) _ _) (FrY_upd (FrY_upd (FrY_upd hY (by omega) _) (by omega) _) (by omega) _) with ⟨a2, v1, p1, q1, r1, s1, t1, u1⟩ | hf
    · rw [t1]
      rw [show fX11_into (wa (wr (mo) 24 g (nI v0)) 0 (upd (upd (upd y 22 (nI (g + 1))) 18 (nI a1)) 19 (nI v0))) 24 4 (nI g) 0 9 = _ from u1, bd_e]
      dsimp only
      unfold fX11_takeGate_47
      rw [ite0]
      rcases into2 (a2 := 3) (a3 := 2) (i := 0 + 1 + 1) (c := 25) (n1 := 4) (x := g) (l := 1) (u := 32) (fu := 997) (a := a2) (mo0 := mo0) h (wr (wr (rd) 2 (0) (nI v0)) 2 (0 + 1) (nI v1)) (wr (wr (mo) 24 g (nI v0)) 25 g (nI v1)) (hT_wr (hT_wr hT (by omega) _ _) (by omega) _ _) q1 (by omega) (by decide) (by decide) rfl rfl (by omega) (by omega) (by omega) hg (by omega) (z := upd (upd (z) 2 (nI a1)) 2 (nI a2)) (y := upd (upd (upd (upd (upd y 22 (nI (g + 1))) 18 (nI a1)) 19 (nI v0)) 18 (nI a2)) 19 (nI v1)) (by rw [upd_at]) (by rw [upd_ne (by omega), upd_ne (by omega)]; exact hz3) (by rw [upd_ne (by omega), upd_ne (by omega), upd_ne (by omega), upd_ne (by omega), upd_ne (by omega)]; exact h16) (by rw [upd_ne (by omega), upd_at]) (by omega) (FrM_wr (FrM_wr hM (by omega) _ _) (by omega) _ _) (FrY_upd (FrY_upd (FrY_upd (FrY_upd (FrY_upd hY (by omega) _) (by omega) _) (by omega) _) (by omega) _) (by omega) _) with ⟨a3, v2, p2, q2, r2, s2, t2, u2⟩ | hf
      · rw [t2]
        left
        refine ⟨a3, v0, v1, v2, upd (upd (upd (upd (upd (upd (upd y 22 (nI (g + 1))) 18 (nI a1)) 19 (nI v0)) 18 (nI a2)) 19 (nI v1)) 18 (nI a3)) 19 (nI v2), by omega, q2, by omega, ?_, ?_, ?_, ?_, ?_⟩
        · rw [rn_end (by decide) (by omega) (by omega), upd_upd, upd_upd]
        · rw [bd_id]; exact u2
        · rw [upd_ne (by omega), upd_at]
        · rw [upd_ne (by omega), upd_ne (by omega), upd_ne (by omega), upd_ne (by omega), upd_ne (by omega), upd_ne (by omega), upd_at]
        · intro i h1 h2 h3
          rw [upd_ne h2, upd_ne h1, upd_ne h2, upd_ne h1, upd_ne h2, upd_ne h1, upd_ne h3]
      · right
        rw [bd_id]
        exact hf
    · right
      obtain ⟨e, p, a', rd', z', M', y', f1, f2, f3, f4, f5, f6, f7, f8, f9, f10, f11⟩ := hf
      refine ⟨e, p, a', rd', z', M', y', f1, f2, f3, f4, f5, f6, f7, ?_, f9, f10, f11⟩
      rw [show fX11_into (wa (wr (mo) 24 g (nI v0)) 0 (upd (upd (upd y 22 (nI (g + 1))) 18 (nI a1)) 19 (nI v0))) 24 4 (nI g) 0 9 = _ from f8, bd_e]
      dsimp only
      unfold fX11_takeGate_47
      rw [iteE f1]
  · right
    obtain ⟨e, p, a', rd', z', M', y', f1, f2, f3, f4, f5, f6, f7, f8, f9, f10, f11⟩ := hf
    refine ⟨e, p, a', rd', z', M', y', f1, f2, f3, f4, f5, f6, f7, ?_, f9, f10, f11⟩
    rw [show fX11_into (wa (mo) 0 (upd y 22 (nI (g + 1)))) 23 4 (nI g) 0 3 = _ from f8, bd_e]
    dsimp only
    rw [iteE f1]
    unfold fX11_takeGate_47
    rw [iteE f1]
/-- a fob's five numbers -/
theorem fob2 {tx mo0 : Grp} {T : Row} {n a g : Nat} (hg : g < 5) (h : Ct tx T n) (rd mo : Grp) (hT : mo 16 = T) (ha : a ≤ n) {z y : Row} (hz : z 2 = nI a) (hz3 : z 3 = 0) (h16 : y 16 = nI n) (h18 : y 18 = nI a) (hs : y 26 = nI g) (hM : FrM mo0 mo) (hY : FrY mo0 y) :
    (∃ (a' v0 v1 v2 v3 v4 : Nat) (y' : Row), a ≤ a' ∧ a' ≤ n ∧ (0 ≤ v0 ∧ v0 ≤ 3 ∧ 0 ≤ v1 ∧ v1 ≤ 9 ∧ 0 ≤ v2 ∧ v2 ≤ 9 ∧ 0 ≤ v3 ∧ v3 ≤ 255 ∧ 0 ≤ v4 ∧ v4 ≤ 999) ∧ fX5_readNumbers (wa rd 0 z) tx 5 4 = some (wa (wr (wr (wr (wr (wr rd 2 0 (nI v0)) 2 1 (nI v1)) 2 2 (nI v2)) 2 3 (nI v3)) 2 4 (nI v4)) 0 (upd z 2 (nI a'))) ∧ fX11_takeFob (wa mo 0 y) = some (0, wa (wr (wr (wr (wr (wr mo 28 g (nI v0)) 29 g (nI v1)) 30 g (nI v2)) 31 g (nI v3)) 32 g (nI v4)) 0 y') ∧ y' 18 = nI a' ∧ y' 26 = nI (g + 1) ∧ ∀ i, ¬ i = 18 → ¬ i = 19 → ¬ i = 26 → y' i = y i) ∨
    Fl n mo0 (fX5_readNumbers (wa rd 0 z) tx 5 4) (fX11_takeFob (wa mo 0 y)) := by
  unfold fX5_readNumbers fX11_takeFob
  rw [wa_row, hs, lt_e, lt_e, ix1, wa_wr0]
  rcases into2 (a2 := 5) (a3 := 4) (i := 0) (c := 27) (n1 := 5) (x := g) (l := 0) (u := 3) (fu := 999) (a := a) (mo0 := mo0) h (rd) (mo) hT ha (by omega) (by decide) (by decide) rfl rfl (by omega) (by omega) (by omega) hg (by omega) (z := z) (y := upd y 26 (nI (g + 1))) hz hz3 (by rw [upd_ne (by omega)]; exact h16) (by rw [upd_ne (by omega)]; exact h18) (by omega) hM (FrY_upd hY (by omega) _) with ⟨a1, v0, p0, q0, r0, s0, t0, u0⟩ | hf
  · rw [show (0 : Int32) = nI 0 from rfl, t0, show nI 0 = (0 : Int32) from rfl]
    rw [show fX11_into (wa (mo) 0 (upd y 26 (nI (g + 1)))) 27 5 (nI g) 0 3 = _ from u0, bd_e]
    dsimp only
    rw [ite0]
    rcases into2 (a2 := 5) (a3 := 4) (i := 0 + 1) (c := 28) (n1 := 5) (x := g) (l := 0) (u := 9) (fu := 998) (a := a1) (mo0 := mo0) h (wr (rd) 2 (0) (nI v0)) (wr (mo) 28 g (nI v0)) (hT_wr hT (by omega) _ _) q0 (by omega) (by decide) (by decide) rfl rfl (by omega) (by omega) (by omega) hg (by omega) (z := upd (z) 2 (nI a1)) (y := upd (upd (upd y 26 (nI (g + 1))) 18 (nI a1)) 19 (nI v0)) (by rw [upd_at]) (by rw [upd_ne (by omega)]; exact hz3) (by rw [upd_ne (by omega), upd_ne (by omega), upd_ne (by omega)]; exact h16) (by rw [upd_ne (by omega), upd_at]) (by omega) (FrM_wr hM (by omega) _ _) (FrY_upd (FrY_upd (FrY_upd hY (by omega) _) (by omega) _) (by omega) _) with ⟨a2, v1, p1, q1, r1, s1, t1, u1⟩ | hf
    · rw [t1]
      rw [show fX11_into (wa (wr (mo) 28 g (nI v0)) 0 (upd (upd (upd y 26 (nI (g + 1))) 18 (nI a1)) 19 (nI v0))) 28 5 (nI g) 0 9 = _ from u1, bd_e]
      dsimp only
      unfold fX11_takeFob_47
      rw [ite0]
      rcases into2 (a2 := 5) (a3 := 4) (i := 0 + 1 + 1) (c := 29) (n1 := 5) (x := g) (l := 0) (u := 9) (fu := 997) (a := a2) (mo0 := mo0) h (wr (wr (rd) 2 (0) (nI v0)) 2 (0 + 1) (nI v1)) (wr (wr (mo) 28 g (nI v0)) 29 g (nI v1)) (hT_wr (hT_wr hT (by omega) _ _) (by omega) _ _) q1 (by omega) (by decide) (by decide) rfl rfl (by omega) (by omega) (by omega) hg (by omega) (z := upd (upd (z) 2 (nI a1)) 2 (nI a2)) (y := upd (upd (upd (upd (upd y 26 (nI (g + 1))) 18 (nI a1)) 19 (nI v0)) 18 (nI a2)) 19 (nI v1)) (by rw [upd_at]) (by rw [upd_ne (by omega), upd_ne (by omega)]; exact hz3) (by rw [upd_ne (by omega), upd_ne (by omega), upd_ne (by omega), upd_ne (by omega), upd_ne (by omega)]; exact h16) (by rw [upd_ne (by omega), upd_at]) (by omega) (FrM_wr (FrM_wr hM (by omega) _ _) (by omega) _ _) (FrY_upd (FrY_upd (FrY_upd (FrY_upd (FrY_upd hY (by omega) _) (by omega) _) (by omega) _) (by omega) _) (by omega) _) with ⟨a3, v2, p2, q2, r2, s2, t2, u2⟩ | hf
      · rw [t2]
        rw [show fX11_into (wa (wr (wr (mo) 28 g (nI v0)) 29 g (nI v1)) 0 (upd (upd (upd (upd (upd y 26 (nI (g + 1))) 18 (nI a1)) 19 (nI v0)) 18 (nI a2)) 19 (nI v1))) 29 5 (nI g) 0 9 = _ from u2, bd_e]
        dsimp only
        unfold fX11_takeFob_68
        rw [ite0]
        rcases into2 (a2 := 5) (a3 := 4) (i := 0 + 1 + 1 + 1) (c := 30) (n1 := 5) (x := g) (l := 0) (u := 255) (fu := 996) (a := a3) (mo0 := mo0) h (wr (wr (wr (rd) 2 (0) (nI v0)) 2 (0 + 1) (nI v1)) 2 (0 + 1 + 1) (nI v2)) (wr (wr (wr (mo) 28 g (nI v0)) 29 g (nI v1)) 30 g (nI v2)) (hT_wr (hT_wr (hT_wr hT (by omega) _ _) (by omega) _ _) (by omega) _ _) q2 (by omega) (by decide) (by decide) rfl rfl (by omega) (by omega) (by omega) hg (by omega) (z := upd (upd (upd (z) 2 (nI a1)) 2 (nI a2)) 2 (nI a3)) (y := upd (upd (upd (upd (upd (upd (upd y 26 (nI (g + 1))) 18 (nI a1)) 19 (nI v0)) 18 (nI a2)) 19 (nI v1)) 18 (nI a3)) 19 (nI v2)) (by rw [upd_at]) (by rw [upd_ne (by omega), upd_ne (by omega), upd_ne (by omega)]; exact hz3) (by rw [upd_ne (by omega), upd_ne (by omega), upd_ne (by omega), upd_ne (by omega), upd_ne (by omega), upd_ne (by omega), upd_ne (by omega)]; exact h16) (by rw [upd_ne (by omega), upd_at]) (by omega) (FrM_wr (FrM_wr (FrM_wr hM (by omega) _ _) (by omega) _ _) (by omega) _ _) (FrY_upd (FrY_upd (FrY_upd (FrY_upd (FrY_upd (FrY_upd (FrY_upd hY (by omega) _) (by omega) _) (by omega) _) (by omega) _) (by omega) _) (by omega) _) (by omega) _) with ⟨a4, v3, p3, q3, r3, s3, t3, u3⟩ | hf
        · rw [t3]
          rw [show fX11_into (wa (wr (wr (wr (mo) 28 g (nI v0)) 29 g (nI v1)) 30 g (nI v2)) 0 (upd (upd (upd (upd (upd (upd (upd y 26 (nI (g + 1))) 18 (nI a1)) 19 (nI v0)) 18 (nI a2)) 19 (nI v1)) 18 (nI a3)) 19 (nI v2))) 30 5 (nI g) 0 255 = _ from u3, bd_e]
          dsimp only
          unfold fX11_takeFob_90
          rw [ite0]
          rcases into2 (a2 := 5) (a3 := 4) (i := 0 + 1 + 1 + 1 + 1) (c := 31) (n1 := 5) (x := g) (l := 0) (u := 999) (fu := 995) (a := a4) (mo0 := mo0) h (wr (wr (wr (wr (rd) 2 (0) (nI v0)) 2 (0 + 1) (nI v1)) 2 (0 + 1 + 1) (nI v2)) 2 (0 + 1 + 1 + 1) (nI v3)) (wr (wr (wr (wr (mo) 28 g (nI v0)) 29 g (nI v1)) 30 g (nI v2)) 31 g (nI v3)) (hT_wr (hT_wr (hT_wr (hT_wr hT (by omega) _ _) (by omega) _ _) (by omega) _ _) (by omega) _ _) q3 (by omega) (by decide) (by decide) rfl rfl (by omega) (by omega) (by omega) hg (by omega) (z := upd (upd (upd (upd (z) 2 (nI a1)) 2 (nI a2)) 2 (nI a3)) 2 (nI a4)) (y := upd (upd (upd (upd (upd (upd (upd (upd (upd y 26 (nI (g + 1))) 18 (nI a1)) 19 (nI v0)) 18 (nI a2)) 19 (nI v1)) 18 (nI a3)) 19 (nI v2)) 18 (nI a4)) 19 (nI v3)) (by rw [upd_at]) (by rw [upd_ne (by omega), upd_ne (by omega), upd_ne (by omega), upd_ne (by omega)]; exact hz3) (by rw [upd_ne (by omega), upd_ne (by omega), upd_ne (by omega), upd_ne (by omega), upd_ne (by omega), upd_ne (by omega), upd_ne (by omega), upd_ne (by omega), upd_ne (by omega)]; exact h16) (by rw [upd_ne (by omega), upd_at]) (by omega) (FrM_wr (FrM_wr (FrM_wr (FrM_wr hM (by omega) _ _) (by omega) _ _) (by omega) _ _) (by omega) _ _) (FrY_upd (FrY_upd (FrY_upd (FrY_upd (FrY_upd (FrY_upd (FrY_upd (FrY_upd (FrY_upd hY (by omega) _) (by omega) _) (by omega) _) (by omega) _) (by omega) _) (by omega) _) (by omega) _) (by omega) _) (by omega) _) with ⟨a5, v4, p4, q4, r4, s4, t4, u4⟩ | hf
          · rw [t4]
            left
            refine ⟨a5, v0, v1, v2, v3, v4, upd (upd (upd (upd (upd (upd (upd (upd (upd (upd (upd y 26 (nI (g + 1))) 18 (nI a1)) 19 (nI v0)) 18 (nI a2)) 19 (nI v1)) 18 (nI a3)) 19 (nI v2)) 18 (nI a4)) 19 (nI v3)) 18 (nI a5)) 19 (nI v4), by omega, q4, by omega, ?_, ?_, ?_, ?_, ?_⟩
            · rw [rn_end (by decide) (by omega) (by omega), upd_upd, upd_upd, upd_upd, upd_upd]
            · rw [bd_id]; exact u4
            · rw [upd_ne (by omega), upd_at]
            · rw [upd_ne (by omega), upd_ne (by omega), upd_ne (by omega), upd_ne (by omega), upd_ne (by omega), upd_ne (by omega), upd_ne (by omega), upd_ne (by omega), upd_ne (by omega), upd_ne (by omega), upd_at]
            · intro i h1 h2 h3
              rw [upd_ne h2, upd_ne h1, upd_ne h2, upd_ne h1, upd_ne h2, upd_ne h1, upd_ne h2, upd_ne h1, upd_ne h2, upd_ne h1, upd_ne h3]
          · right
            rw [bd_id]
            exact hf
        · right
          obtain ⟨e, p, a', rd', z', M', y', f1, f2, f3, f4, f5, f6, f7, f8, f9, f10, f11⟩ := hf
          refine ⟨e, p, a', rd', z', M', y', f1, f2, f3, f4, f5, f6, f7, ?_, f9, f10, f11⟩
          rw [show fX11_into (wa (wr (wr (wr (mo) 28 g (nI v0)) 29 g (nI v1)) 30 g (nI v2)) 0 (upd (upd (upd (upd (upd (upd (upd y 26 (nI (g + 1))) 18 (nI a1)) 19 (nI v0)) 18 (nI a2)) 19 (nI v1)) 18 (nI a3)) 19 (nI v2))) 30 5 (nI g) 0 255 = _ from f8, bd_e]
          dsimp only
          unfold fX11_takeFob_90
          rw [iteE f1]
      · right
        obtain ⟨e, p, a', rd', z', M', y', f1, f2, f3, f4, f5, f6, f7, f8, f9, f10, f11⟩ := hf
        refine ⟨e, p, a', rd', z', M', y', f1, f2, f3, f4, f5, f6, f7, ?_, f9, f10, f11⟩
        rw [show fX11_into (wa (wr (wr (mo) 28 g (nI v0)) 29 g (nI v1)) 0 (upd (upd (upd (upd (upd y 26 (nI (g + 1))) 18 (nI a1)) 19 (nI v0)) 18 (nI a2)) 19 (nI v1))) 29 5 (nI g) 0 9 = _ from f8, bd_e]
        dsimp only
        unfold fX11_takeFob_68
        rw [iteE f1]
        unfold fX11_takeFob_90
        rw [iteE f1]
    · right
      obtain ⟨e, p, a', rd', z', M', y', f1, f2, f3, f4, f5, f6, f7, f8, f9, f10, f11⟩ := hf
      refine ⟨e, p, a', rd', z', M', y', f1, f2, f3, f4, f5, f6, f7, ?_, f9, f10, f11⟩
      rw [show fX11_into (wa (wr (mo) 28 g (nI v0)) 0 (upd (upd (upd y 26 (nI (g + 1))) 18 (nI a1)) 19 (nI v0))) 28 5 (nI g) 0 9 = _ from f8, bd_e]
      dsimp only
      unfold fX11_takeFob_47
      rw [iteE f1]
      unfold fX11_takeFob_68
      rw [iteE f1]
      unfold fX11_takeFob_90
      rw [iteE f1]
  · right
    obtain ⟨e, p, a', rd', z', M', y', f1, f2, f3, f4, f5, f6, f7, f8, f9, f10, f11⟩ := hf
    refine ⟨e, p, a', rd', z', M', y', f1, f2, f3, f4, f5, f6, f7, ?_, f9, f10, f11⟩
    rw [show fX11_into (wa (mo) 0 (upd y 26 (nI (g + 1)))) 27 5 (nI g) 0 3 = _ from f8, bd_e]
    dsimp only
    rw [iteE f1]
    unfold fX11_takeFob_47
    rw [iteE f1]
    unfold fX11_takeFob_68
    rw [iteE f1]
    unfold fX11_takeFob_90
    rw [iteE f1]
