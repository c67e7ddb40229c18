/-! the class's search -/
def srch (pc : Row) (E : Int32) (r : Row) : Nat → Nat → Int32 → Int32
  | 0, _, s => s
  | n + 1, g, s => if ¬ (r 25 >>> (nI g &&& 31)) &&& 1 = 1 ∧ sfar (r 15) (pc g) ≤ E then srch pc E r n (g + 1) (s ||| (1 <<< (nI g &&& 31))) else srch pc E r n (g + 1) s
theorem c_reach4 (sc pl : Grp) {G Fb : Nat} (hM : CP pl G Fb) (h15 : inN (toRow sc 15) 10) : ∀ (n g fu : Nat) (s : Int32), g + n = G → n + 1 ≤ fu → fX7_gatesInReach_4 sc pl fu s (nI g) = some (srch (pl 7) (pl 0 2) (toRow sc) n g s) := by
  have hG := hM.2.2.1
  intro n
  induction n with
  | zero =>
    intro g fu s hg hfu
    obtain ⟨fu, rfl⟩ : ∃ z, fu = z + 1 := ⟨fu - 1, by omega⟩
    rw [fX7_gatesInReach_4, hM.1, if_neg (nI_nlt (by omega) (by omega)), srch]
  | succ n ih =>
    intro g fu s hg hfu
    obtain ⟨fu, rfl⟩ : ∃ z, fu = z + 1 := ⟨fu - 1, by omega⟩
    rw [fX7_gatesInReach_4, hM.1, if_pos (nI_lt (by omega) (by omega)), ← tr15 sc, c_heardAt sc pl (by omega) (toRow sc 15) (pl 0 2) h15 (hM.2.2.2.2.1 g (by omega)).2.1, bd_e, srch]
    by_cases h : ¬ (toRow sc 25 >>> (nI g &&& 31)) &&& 1 = 1 ∧ sfar (toRow sc 15) (pl 7 g) ≤ pl 0 2
    · rw [if_pos h, if_pos h, if_neg i10]
      simp only [lt_e, ix1]
      exact ih (g + 1) fu _ (by omega) (by omega)
    · rw [if_neg h, if_neg h, if_pos i00]
      simp only [lt_e, ix1]
      exact ih (g + 1) fu _ (by omega) (by omega)
theorem srch_cg {pc pc' r r' : Row} {E : Int32} {G : Nat} (h : ∀ g, g < G → pc g = pc' g) (h25 : r 25 = r' 25) (h15 : r 15 = r' 15) : ∀ (n g : Nat) (s : Int32), g + n = G → srch pc E r n g s = srch pc' E r' n g s := by
  intro n
  induction n with
  | zero => intro g s _; rfl
  | succ n ih =>
    intro g s hg
    rw [srch, srch, h25, h15, h g (by omega), ih (g + 1) _ (by omega), ih (g + 1) _ (by omega)]
theorem srch_in {pc r : Row} {E : Int32} {G : Nat} (hG : G ≤ 4) : ∀ (n g : Nat) (s : Int32), g + n = G → inN s 16 → inN (srch pc E r n g s) 16 := by
  intro n
  induction n with
  | zero => intro g s _ h; exact h
  | succ n ih =>
    intro g s hg hs
    rw [srch]
    split
    · refine ih (g + 1) _ (by omega) ?_
      obtain ⟨z, hz, rfl⟩ := hs
      exact or16 z hz g (by omega)
    · exact ih (g + 1) _ (by omega) hs
theorem sent2 {pl mo sc : Grp} {G Fb K i : Nat} {r : Row} (hP : Pn G Fb pl mo) (hS : S3 G Fb (toRow sc) r) (hK : K ≤ 8) (eK : r 16 = nI K) (hi : i < K) : ∃ sc', fX7_sentAgain sc pl (nI i) = some ((sg (mo 5) (mo 6) (mo 7) (mo 12) G Fb (mo 0 2) r i).1, sc') ∧ S3 G Fb (toRow sc') (sg (mo 5) (mo 6) (mo 7) (mo 12) G Fb (mo 0 2) r i).2 := by
  have hF := hP.1.2.2.2.1
  have e15 : toRow sc 15 = r 15 := hS.1.1 _ ok15
  have e17 : toRow sc (17 + i) = r (17 + i) := hS.1.2 i (by omega) (by rw [eK]; exact nI_lt (by omega) (by omega))
  obtain ⟨sc', e1, e2⟩ := c_heard sc pl hP.1 (RR_RI hF hS.1 hS.2.1) (RR_WC hS.1 hS.2.2) (r (17 + i)) (r 15) (mo 0 2) hS.2.1.2.2.2.2.2.1
  have cg := cg_send hP.2.1.2.2 hP.2.2.1 (r 15) (mo 0 2) (r (17 + i)) G 0 0 (toRow sc) r (by omega) hS.1 hS.2.1 hS.2.2
  have rs := RI_send (place := r 15) (reach := mo 0 2) (code := r (17 + i)) hP.2.1.2.2 G 0 0 r (by omega) hS.2.1 hS.2.2
  refine ⟨sc', ?_, ?_⟩
  · unfold fX7_sentAgain sg
    rw [ab_e (by omega) (by omega), nI_clamp (by omega), ← tr17 (by omega) sc, ← tr15 sc, e15, e17, hP.2.2.2.2.2.1, e1, bd_e]
    dsimp only
    rw [cg.1]
  · rw [e2]
    exact ⟨cg.2, rs⟩
theorem waits2 (sc pl sd : Grp) {G Fb : Nat} (hM : CP pl G Fb) : ∀ (n g fu : Nat), g + n = G → n + 1 ≤ fu → ∃ b, (b = 0 ∨ b = 1) ∧ fX7_waitsAs_2 sc pl sd fu (nI g) = some b ∧ (b = 1 ↔ ∀ j, g ≤ j → j < G → sc 11 j = sd 11 j ∧ sc 12 j = sd 12 j) := by
  have hG := hM.2.2.1
  intro n
  induction n with
  | zero =>
    intro g fu hg hfu
    obtain ⟨fu, rfl⟩ : ∃ z, fu = z + 1 := ⟨fu - 1, by omega⟩
    rw [fX7_waitsAs_2, hM.1, if_neg (nI_nlt (by omega) (by omega))]
    exact ⟨1, Or.inr rfl, rfl, fun _ j _ _ => by omega, fun _ => rfl⟩
  | succ n ih =>
    intro g fu hg hfu
    obtain ⟨fu, rfl⟩ : ∃ z, fu = z + 1 := ⟨fu - 1, by omega⟩
    rw [fX7_waitsAs_2, hM.1, if_pos (nI_lt (by omega) (by omega))]
    simp (disch := omega) only [ab_e, nI_clamp, lt_e, ix1]
    by_cases h1 : sc 11 g = sd 11 g
    · rw [if_pos h1]
      by_cases h2 : sc 12 g = sd 12 g
      · rw [if_pos h2]
        obtain ⟨b, hb, e, hi⟩ := ih (g + 1) fu (by omega) (by omega)
        refine ⟨b, hb, e, hi.trans ⟨fun a j q1 q2 => ?_, fun a j q1 q2 => a j (by omega) q2⟩⟩
        by_cases ej : j = g
        · rw [ej]; exact ⟨h1, h2⟩
        · exact a j (by omega) q2
      · rw [if_neg h2]
        exact ⟨0, Or.inl rfl, rfl, fun e => absurd e (by decide), fun a => absurd (a g (by omega) (by omega)).2 h2⟩
    · rw [if_neg h1]
      exact ⟨0, Or.inl rfl, rfl, fun e => absurd e (by decide), fun a => absurd (a g (by omega) (by omega)).1 h1⟩
theorem dig {K n e i t : Nat} (he : e < n) (ht : t < K ^ n) : (i * K ^ n + t) / K ^ e % K = t / K ^ e % K := by
  have hn : K ^ n = K ^ e * (K * K ^ (n - e - 1)) := by rw [← Nat.pow_succ', ← Nat.pow_add]; congr 1; omega
  have hp : 0 < K ^ e := by
    rcases Nat.eq_zero_or_pos (K ^ e) with h | h
    · rw [h, Nat.zero_mul] at hn; omega
    · exact h
  rw [hn, show i * (K ^ e * (K * K ^ (n - e - 1))) = K ^ e * (K * (i * K ^ (n - e - 1))) from by rw [Nat.mul_left_comm, Nat.mul_left_comm i K], Nat.mul_add_div hp, Nat.mul_add_mod]
/-- what the search from a depth on answers and leaves -/
def CE (mo : Grp) (G Fb K : Nat) (f : Mem → Int32 → Int32 → Int32 → Option (Int32 × Mem)) (n d L : Nat) : Prop := ∀ (σ : Mem) (r : Row) (m : Int32), Pn G Fb (σ 4 0) mo → S3 G Fb (toRow (σ 7 (20 + d))) r → r 16 = nI K → inN m 16 → ∃ (σ' : Mem), (match cp (mo 5) (mo 6) (mo 7) (mo 12) G Fb (mo 0 2) K n r m with
    | none => f σ (nI d) (nI L) m = some (0, σ')
    | some t => f σ (nI d) (nI L) m = some (1, σ') ∧ ∀ k, k < n → σ' 6 0 2 (d + k) = nI (t / K ^ (n - 1 - k) % K)) ∧
  (∀ t k, ¬ (t = 6 ∧ k = 0) → ¬ (t = 7 ∧ 20 + d < k ∧ k < 24) → σ' t k = σ t k) ∧ ∀ j, j < d → σ' 6 0 2 j = σ 6 0 2 j
theorem CE41 {mo : Grp} {G Fb K : Nat} (hK : K ≤ 8) {rec : Mem → Int32 → Int32 → Int32 → Option (Int32 × Mem)} {n d L : Nat} (hd : d < 3) (hrec : CE mo G Fb K rec n (d + 1) L) : ∀ (c i fu : Nat) (σ : Mem) (r : Row) (m : Int32), i + c = K → c + 1 ≤ fu → Pn G Fb (σ 4 0) mo → S3 G Fb (toRow (σ 7 (20 + d))) r → r 16 = nI K → inN m 16 → ∃ (σ' : Mem), (match ff (fun i => @ite _ (vn (mo 5) (mo 6) (mo 7) (mo 12) G Fb (mo 0 2) r i m) (Classical.propDecidable _) none (cp (mo 5) (mo 6) (mo 7) (mo 12) G Fb (mo 0 2) K n (sg (mo 5) (mo 6) (mo 7) (mo 12) G Fb (mo 0 2) r i).2 (m &&& ((sg (mo 5) (mo 6) (mo 7) (mo 12) G Fb (mo 0 2) r i).1 ^^^ -1)))) (K ^ n) c i with
    | none => fX6_canEnd_41 rec fu σ (nI d) (nI L) m (nI i) = some (0, σ')
    | some t => fX6_canEnd_41 rec fu σ (nI d) (nI L) m (nI i) = some (1, σ') ∧ ∀ k, k < n + 1 → σ' 6 0 2 (d + k) = nI (t / K ^ (n - k) % K)) ∧
  (∀ t k, ¬ (t = 6 ∧ k = 0) → ¬ (t = 7 ∧ 20 + d < k ∧ k < 24) → σ' t k = σ t k) ∧ ∀ j, j < d → σ' 6 0 2 j = σ 6 0 2 j := by
  intro c
  induction c with
  | zero =>
    intro i fu σ r m hi hfu hP hS eK hm
    obtain ⟨fu, rfl⟩ : ∃ z, fu = z + 1 := ⟨fu - 1, by omega⟩
    have e16 : σ 7 (20 + d) 0 4 = nI K := by rw [← tr16 (σ 7 (20 + d)), hS.1.1 _ ok16, eK]
    refine ⟨σ, ?_, fun _ _ _ _ => rfl, fun _ _ => rfl⟩
    rw [ff]
    dsimp only
    rw [fX6_canEnd_41, nI_clamp (by omega), e16, if_neg (nI_nlt (by omega) (by omega))]
  | succ c ih =>
    intro i fu σ r m hi hfu hP hS eK hm
    obtain ⟨fu, rfl⟩ : ∃ z, fu = z + 1 := ⟨fu - 1, by omega⟩
    have e16 : σ 7 (20 + d) 0 4 = nI K := by rw [← tr16 (σ 7 (20 + d)), hS.1.1 _ ok16, eK]
    have hF := hP.1.2.2.2.1
    have f1 := sg_facts (E := mo 0 2) hP.2.1.2.2 hS.2.1 hS.2.2 i
    obtain ⟨t1, c1, c2⟩ := c_copy (σ 7 (20 + (d + 1))) (σ 7 (20 + d))
    obtain ⟨t2, c3, c4⟩ := sent2 (sc := t1) hP (by rw [c2]; exact hS) hK eK (i := i) (by omega)
    obtain ⟨b, hb, w1, w2⟩ := waits2 t2 (σ 4 0) (σ 7 (20 + d)) hP.1 G 0 1000 (by omega) (by have := hP.1.2.2.1; omega)
    have hck : decide (¬ 20 + d = 20 + (d + 1)) = true := decide_eq_true (by omega)
    have m10a : ∀ (g : Grp) (k : Nat), upM σ 6 0 g 7 k = σ 7 k := fun g k => rfl
    have m15a : ∀ (g g' : Grp), upM (upM σ 6 0 g) 7 (20 + (d + 1)) g' 7 (20 + d) = σ 7 (20 + d) := fun g g' => by rw [up7 (by omega)]; rfl
    have m15b : ∀ (g g' : Grp), upM (upM σ 6 0 g) 7 (20 + (d + 1)) g' 7 (20 + (d + 1)) = g' := fun g g' => upM_same _ _ _ _
    have m15c : ∀ (g g' : Grp), upM (upM σ 6 0 g) 7 (20 + (d + 1)) g' 4 0 = σ 4 0 := fun g g' => rfl
    have hvn : (m &&& ((sg (mo 5) (mo 6) (mo 7) (mo 12) G Fb (mo 0 2) r i).1 ^^^ -1) = m ∧ b = 1) ↔ vn (mo 5) (mo 6) (mo 7) (mo 12) G Fb (mo 0 2) r i m := by
      refine and_congr Iff.rfl (w2.trans ?_)
      have h11 : ∀ g, g < G → (t2 11 g = σ 7 (20 + d) 11 g ∧ t2 12 g = σ 7 (20 + d) 12 g ↔ (sg (mo 5) (mo 6) (mo 7) (mo 12) G Fb (mo 0 2) r i).2 (30 + g) = r (30 + g) ∧ (sg (mo 5) (mo 6) (mo 7) (mo 12) G Fb (mo 0 2) r i).2 (34 + g) = r (34 + g)) := by
        intro g hg
        have hG := hP.1.2.2.1
        rw [← tr30 (by omega) t2, ← tr34 (by omega) t2, ← tr30 (by omega) (σ 7 (20 + d)), ← tr34 (by omega) (σ 7 (20 + d)), c4.1.1 _ (ok30 (by omega)), c4.1.1 _ (ok34 (by omega)), hS.1.1 _ (ok30 (by omega)), hS.1.1 _ (ok34 (by omega))]
      exact ⟨fun a g hg => (h11 g hg).mp (a g (by omega) hg), fun a g _ hg => (h11 g hg).mpr (a g hg)⟩
    -- the memory in which the search goes on
    have hgo : ∃ σ2 : Mem, σ2 = upM (upM σ 6 0 (wr (σ 6 0) 2 d (nI i))) 7 (20 + (d + 1)) t2 := ⟨_, rfl⟩
    obtain ⟨σ2, eσ2⟩ := hgo
    have hfr2 : ∀ t k, ¬ (t = 6 ∧ k = 0) → ¬ (t = 7 ∧ 20 + d < k ∧ k < 24) → σ2 t k = σ t k := by
      intro t k h1 h2
      rw [eσ2, upM_ne (fun e => h2 ⟨e.1, by omega, by omega⟩), upM_ne h1]
    have h6 : σ2 6 0 = wr (σ 6 0) 2 d (nI i) := by rw [eσ2]; rfl
    have hlow : ∀ j, j < d → σ2 6 0 2 j = σ 6 0 2 j := fun j hj => by rw [h6]; exact wr_ne (by omega)
    have hP2 : Pn G Fb (σ2 4 0) mo := by rw [hfr2 4 0 (by omega) (by omega)]; exact hP
    have hS2 : S3 G Fb (toRow (σ2 7 (20 + (d + 1)))) (sg (mo 5) (mo 6) (mo 7) (mo 12) G Fb (mo 0 2) r i).2 := by
      rw [eσ2, upM_same]; exact c4
    -- the loop's step
    have hstep : fX6_canEnd_41 rec (fu + 1) σ (nI d) (nI L) m (nI i) = (if m &&& ((sg (mo 5) (mo 6) (mo 7) (mo 12) G Fb (mo 0 2) r i).1 ^^^ -1) = m ∧ b = 1 then fX6_canEnd_41 rec fu σ2 (nI d) (nI L) m (nI (i + 1)) else d_bd (rec σ2 (nI (d + 1)) (nI L) (m &&& ((sg (mo 5) (mo 6) (mo 7) (mo 12) G Fb (mo 0 2) r i).1 ^^^ -1))) fun q => if q.1 = 0 then fX6_canEnd_41 rec fu q.2 (nI d) (nI L) m (nI (i + 1)) else some (1, q.2)) := by
      rw [fX6_canEnd_41, nI_clamp (by omega), e16, if_pos (nI_lt (by omega) (by omega)), ab_e (by omega) (by omega), lt_e, ix1, nI_clamp (by omega), hck]
      simp only [d_ck, if_true, m10a, c1, bd_e, lt_e, m15b, m15c, c3, upM_upM, m15a, ix1]
      unfold fX7_waitsAs
      rw [show (0 : Int32) = nI 0 from rfl, w1, bd_e, ← eσ2, show nI 0 = (0 : Int32) from rfl]
      by_cases hm2 : m &&& ((sg (mo 5) (mo 6) (mo 7) (mo 12) G Fb (mo 0 2) r i).1 ^^^ -1) = m
      · rw [if_pos hm2]
        rcases hb with rfl | rfl
        · rw [if_pos i00, if_neg (fun a => absurd a.2 (by decide))]
        · rw [if_neg i10, if_neg i10, if_pos (show _ ∧ _ from ⟨hm2, rfl⟩)]
      · rw [if_neg hm2, if_neg (fun a => hm2 a.1)]
    rw [hstep, ff]
    by_cases hv : vn (mo 5) (mo 6) (mo 7) (mo 12) G Fb (mo 0 2) r i m
    · rw [if_pos (hvn.mpr hv), if_pos hv]
      dsimp only
      obtain ⟨σ', a1, a2, a3⟩ := ih (i + 1) fu σ2 r m (by omega) (by omega) hP2 (by rw [hfr2 7 (20 + d) (by omega) (by omega)]; exact hS) eK hm
      exact ⟨σ', a1, fun t k h1 h2 => (a2 t k h1 h2).trans (hfr2 t k h1 h2), fun j hj => (a3 j hj).trans (hlow j hj)⟩
    · rw [if_neg (fun a => hv (hvn.mp a)), if_neg hv]
      obtain ⟨σ3, r1, r2, r3⟩ := hrec σ2 _ _ hP2 hS2 (by rw [f1.2.2.2 16 (by omega)]; exact eK) (miss_in hm f1.2.2.1)
      have hfr3 : ∀ t k, ¬ (t = 6 ∧ k = 0) → ¬ (t = 7 ∧ 20 + d < k ∧ k < 24) → σ3 t k = σ t k := fun t k h1 h2 => (r2 t k h1 (by omega)).trans (hfr2 t k h1 h2)
      have hlow3 : ∀ j, j < d → σ3 6 0 2 j = σ 6 0 2 j := fun j hj => (r3 j (by omega)).trans (hlow j hj)
      cases hcp : cp (mo 5) (mo 6) (mo 7) (mo 12) G Fb (mo 0 2) K n (sg (mo 5) (mo 6) (mo 7) (mo 12) G Fb (mo 0 2) r i).2 (m &&& ((sg (mo 5) (mo 6) (mo 7) (mo 12) G Fb (mo 0 2) r i).1 ^^^ -1)) with
      | none =>
        rw [hcp] at r1
        dsimp only at r1
        dsimp only
        rw [r1, bd_e]
        dsimp only
        rw [if_pos i00]
        obtain ⟨σ', a1, a2, a3⟩ := ih (i + 1) fu σ3 r m (by omega) (by omega) (by rw [hfr3 4 0 (by omega) (by omega)]; exact hP) (by rw [hfr3 7 (20 + d) (by omega) (by omega)]; exact hS) eK hm
        exact ⟨σ', a1, fun t k h1 h2 => (a2 t k h1 h2).trans (hfr3 t k h1 h2), fun j hj => (a3 j hj).trans (hlow3 j hj)⟩
      | some t =>
        rw [hcp] at r1
        dsimp only at r1
        dsimp only
        rw [r1.1, bd_e]
        dsimp only
        rw [if_neg i10]
        have hlt := cp_lt _ _ _ _ hcp
        refine ⟨σ3, ⟨rfl, fun k hk => ?_⟩, hfr3, hlow3⟩
        by_cases hk0 : k = 0
        · subst hk0
          have e0 : σ3 6 0 2 d = nI i := by rw [r3 d (by omega), h6]; exact wr_eq _ _ _ _
          rw [Nat.add_zero, e0, Nat.sub_zero, Nat.mul_comm, Nat.mul_add_div (by omega), Nat.div_eq_of_lt hlt, Nat.add_zero, Nat.mod_eq_of_lt (by omega)]
        · have := r1.2 (k - 1) (by omega)
          rw [show d + 1 + (k - 1) = d + k from by omega, show n - 1 - (k - 1) = n - k from by omega] at this
          rw [this, dig (by omega) hlt]
theorem CE_r {mo : Grp} {G Fb K : Nat} (hK : K ≤ 8) : ∀ (n d L fu : Nat), d + n = L → L ≤ 3 → n + 1 ≤ fu → CE mo G Fb K (fX6_canEnd_r fu) n d L := by
  intro n
  induction n with
  | zero =>
    intro d L fu hd hL hfu σ r m hP hS eK hm
    obtain ⟨fu, rfl⟩ : ∃ z, fu = z + 1 := ⟨fu - 1, by omega⟩
    obtain rfl : d = L := by omega
    refine ⟨σ, ?_, fun _ _ _ _ => rfl, fun _ _ => rfl⟩
    rw [fX6_canEnd_r, fX6_canEnd_b, if_neg (nI_nlt (by omega) (by omega)), fX6_canEnd_10, cp]
    by_cases h : m = 0
    · rw [if_pos h, if_pos h]
      exact ⟨rfl, fun k hk => by omega⟩
    · rw [if_neg h, if_neg h]
  | succ n ih =>
    intro d L fu hd hL hfu σ r m hP hS eK hm
    obtain ⟨fu, rfl⟩ : ∃ z, fu = z + 1 := ⟨fu - 1, by omega⟩
    obtain ⟨σ', a1, a2, a3⟩ := CE41 hK (show d < 3 by omega) (ih (d + 1) L fu (by omega) hL (by omega)) K 0 1000 σ r m (by omega) (by omega) hP hS eK hm
    refine ⟨σ', ?_, a2, a3⟩
    rw [fX6_canEnd_r, fX6_canEnd_b, if_pos (nI_lt (by omega) (by omega)), if_pos (show nI d < 3 from nI_lt (b := 3) (by omega) (by omega)), ab_e (by omega) (by omega), ix1, ab_e (by omega) (by omega), cp]
    rw [Nat.add_sub_cancel]
    exact a1
theorem find17 {mo : Grp} {G Fb K : Nat} (hK : K ≤ 8) {r : Row} {w : Int32} (hw : inN w 16) (eK : r 16 = nI K) : ∀ (n L fu : Nat) (σ : Mem), L + n = 4 → n + 1 ≤ fu → Pn G Fb (σ 4 0) mo → S3 G Fb (toRow (σ 7 20)) r → (∀ n', n' < L → cu (mo 5) (mo 6) (mo 7) (mo 12) G Fb (mo 0 2) K n' r w = none) →
    ∃ σ', (∀ t k, ¬ (t = 6 ∧ k = 0) → ¬ (t = 7 ∧ 20 < k ∧ k < 24) → σ' t k = σ t k) ∧
    ((fX6_find_17 fu σ w (nI L) = some (-1, σ') ∧ ∀ n', n' ≤ 3 → cu (mo 5) (mo 6) (mo 7) (mo 12) G Fb (mo 0 2) K n' r w = none) ∨
     ∃ L' t, L' ≤ 3 ∧ fX6_find_17 fu σ w (nI L) = some (nI L', σ') ∧ (∀ n', n' < L' → cu (mo 5) (mo 6) (mo 7) (mo 12) G Fb (mo 0 2) K n' r w = none) ∧ cu (mo 5) (mo 6) (mo 7) (mo 12) G Fb (mo 0 2) K L' r w = some t ∧ ∀ k, k < L' → σ' 6 0 2 k = nI (t / K ^ (L' - 1 - k) % K)) := by
  intro n
  induction n with
  | zero =>
    intro L fu σ hL hfu hP hS hn
    obtain ⟨fu, rfl⟩ : ∃ z, fu = z + 1 := ⟨fu - 1, by omega⟩
    obtain rfl : L = 4 := by omega
    refine ⟨σ, fun _ _ _ _ => rfl, Or.inl ⟨?_, fun n' h => hn n' (by omega)⟩⟩
    rw [fX6_find_17, if_neg (show ¬ nI 4 ≤ 3 by decide)]
  | succ n ih =>
    intro L fu σ hL hfu hP hS hn
    obtain ⟨fu, rfl⟩ : ∃ z, fu = z + 1 := ⟨fu - 1, by omega⟩
    obtain ⟨σ', a1, a2, a3⟩ := CE_r hK L 0 L 6 (by omega) (by omega) (by omega) σ r w hP hS eK hw
    have hcp := cp_cu (E := mo 0 2) hK hP.2.1.2.2 L r w hS.2.1 hS.2.2 hw hn
    rw [hcp] at a1
    rw [fX6_find_17, if_pos (show nI L ≤ 3 from nI_le (b := 3) (by omega) (by omega))]
    unfold fX6_canEnd
    cases hc : cu (mo 5) (mo 6) (mo 7) (mo 12) G Fb (mo 0 2) K L r w with
    | none =>
      rw [hc] at a1
      dsimp only at a1
      rw [show (0 : Int32) = nI 0 from rfl, a1, bd_e]
      dsimp only
      rw [show nI 0 = (0 : Int32) from rfl, if_pos i00, lt_e, ix1]
      obtain ⟨σ2, b1, b2⟩ := ih (L + 1) fu σ' (by omega) (by omega) (by rw [a2 4 0 (by omega) (by omega)]; exact hP) (by rw [a2 7 20 (by omega) (by omega)]; exact hS) (fun n' h => by
        by_cases e : n' = L
        · rw [e]; exact hc
        · exact hn n' (by omega))
      exact ⟨σ2, fun t k h1 h2 => (b1 t k h1 h2).trans (a2 t k h1 (by omega)), b2⟩
    | some t =>
      rw [hc] at a1
      dsimp only at a1
      rw [show (0 : Int32) = nI 0 from rfl, a1.1, bd_e]
      dsimp only
      rw [show nI 0 = (0 : Int32) from rfl, if_neg i10]
      refine ⟨σ', fun t k h1 h2 => a2 t k h1 (by omega), Or.inr ⟨L, t, by omega, rfl, hn, hc, fun k hk => ?_⟩⟩
      have := a1.2 k hk
      rw [Nat.zero_add] at this
      exact this
theorem c_find {G Fb K : Nat} {σ : Mem} (h : INV G Fb σ) (hK : K ≤ 8) (eK : σ 11 0 14 16 = nI K) : ∃ σ', (∀ t k, ¬ (t = 6 ∧ k = 0) → ¬ (t = 7 ∧ 20 ≤ k ∧ k < 24) → σ' t k = σ t k) ∧
    ((fX6_find σ = some (-1, σ') ∧ ∀ n', n' ≤ 3 → cu (σ 11 0 5) (σ 11 0 6) (σ 11 0 7) (σ 11 0 12) G Fb (σ 11 0 0 2) K n' (σ 11 0 14) (srch (σ 11 0 6) (σ 11 0 0 2) (σ 11 0 14) G 0 0) = none) ∨
     ∃ L' t, L' ≤ 3 ∧ fX6_find σ = some (nI L', σ') ∧ (∀ n', n' < L' → cu (σ 11 0 5) (σ 11 0 6) (σ 11 0 7) (σ 11 0 12) G Fb (σ 11 0 0 2) K n' (σ 11 0 14) (srch (σ 11 0 6) (σ 11 0 0 2) (σ 11 0 14) G 0 0) = none) ∧ cu (σ 11 0 5) (σ 11 0 6) (σ 11 0 7) (σ 11 0 12) G Fb (σ 11 0 0 2) K L' (σ 11 0 14) (srch (σ 11 0 6) (σ 11 0 0 2) (σ 11 0 14) G 0 0) = some t ∧ ∀ k, k < L' → σ' 6 0 2 k = nI (t / K ^ (L' - 1 - k) % K)) := by
  have hG := h.1.1.2.2.1
  obtain ⟨t1, c1, c2⟩ := c_copy (σ 7 20) (σ 7 0)
  have e7 : upM σ 7 20 t1 7 0 = σ 7 0 := up7 (by omega)
  have e4 : upM σ 7 20 t1 4 0 = σ 4 0 := rfl
  have e15 : toRow (σ 7 0) 15 = σ 11 0 14 15 := h.2.1.1.1 _ ok15
  have er := c_reach4 (σ 7 0) (σ 4 0) h.1.1 (by rw [e15]; exact h.2.1.2.1.2.2.2.2.2.1) G 0 1000 0 (by omega) (by omega)
  rw [srch_cg (pc' := σ 11 0 6) (r' := σ 11 0 14) (G := G) (fun g hg => (h.1.2.2.1.1 g hg).2.1) (h.2.1.1.1 _ ok25) e15 G 0 0 (by omega), h.1.2.2.2.2.2.1] at er
  obtain ⟨σ', a1, a2⟩ := find17 (mo := σ 11 0) hK (srch_in hG G 0 0 (by omega) ⟨0, by omega, rfl⟩) eK 4 0 1000 (upM σ 7 20 t1) (by omega) (by omega) (by rw [e4]; exact h.1) (by rw [upM_same, c2]; exact ⟨h.2.1.1, h.2.1.2.1, h.2.1.2.2.1⟩) (fun n' hn => by omega)
  have hf : fX6_find σ = fX6_find_17 1000 (upM σ 7 20 t1) (srch (σ 11 0 6) (σ 11 0 0 2) (σ 11 0 14) G 0 0) (nI 0) := by
    unfold fX6_find
    rw [ab_l (by decide) (by decide), show 20 + (0 : Int32).toNatClampNeg = 20 from rfl, c1, bd_e, lt_e, e7, e4]
    unfold fX7_gatesInReach
    rw [show (0 : Int32) = nI 0 from rfl] at er ⊢
    rw [er, bd_e]
  rw [hf]
  refine ⟨σ', fun t k h1 h2 => (a1 t k h1 (by omega)).trans (upM_ne (fun e => h2 ⟨e.1, by omega, by omega⟩)), a2⟩
