def okQ (G Fb i : Nat) : Prop := i < 58 ∧ 5 ≤ i ∧ (i < 5 → i < Fb) ∧ (5 ≤ i → i < 10 → i - 5 < Fb) ∧ (10 ≤ i → i < 15 → i - 10 < Fb) ∧ ¬ (17 ≤ i ∧ i < 25) ∧ (38 ≤ i → i < 58 → (i - 38) % 5 < Fb) ∧ (30 ≤ i → i < 38 → (i - 30) % 4 < G)
def RQ (G Fb : Nat) (rc rm : Row) : Prop := (∀ i, okQ G Fb i → rc i = rm i) ∧ ∀ i, i < 8 → nI i < rm 16 → rc (17 + i) = rm (17 + i)
theorem oq26 {G : Nat} {Fb g : Nat} (h : g < 4) : okQ G Fb (26 + g) := ⟨by omega, by omega, by omega, by omega, by omega, by omega, by omega, by omega⟩
theorem oq30 {G : Nat} {Fb g : Nat} (h : g < min 4 G) : okQ G Fb (30 + g) := ⟨by omega, by omega, by omega, by omega, by omega, by omega, by omega, by omega⟩
theorem oq34 {G : Nat} {Fb g : Nat} (h : g < min 4 G) : okQ G Fb (34 + g) := ⟨by omega, by omega, by omega, by omega, by omega, by omega, by omega, by omega⟩
theorem oq38 {G : Nat} {Fb g f : Nat} (hF : Fb ≤ 5) (h : g < 4) (hf : f < Fb) : okQ G Fb (38 + 5 * g + f) := ⟨by omega, by omega, by omega, by omega, by omega, by omega, by omega, by omega⟩
theorem oq5 {G : Nat} {Fb f : Nat} (hF : Fb ≤ 5) (hf : f < Fb) : okQ G Fb (5 + f) := ⟨by omega, by omega, by omega, by omega, by omega, by omega, by omega, by omega⟩
theorem oq10 {G : Nat} {Fb f : Nat} (hF : Fb ≤ 5) (hf : f < Fb) : okQ G Fb (10 + f) := ⟨by omega, by omega, by omega, by omega, by omega, by omega, by omega, by omega⟩
theorem oq15 {G : Nat} {Fb : Nat} : okQ G Fb 15 := ⟨by omega, by omega, by omega, by omega, by omega, by omega, by omega, by omega⟩
theorem oq16 {G : Nat} {Fb : Nat} : okQ G Fb 16 := ⟨by omega, by omega, by omega, by omega, by omega, by omega, by omega, by omega⟩
theorem oq25 {G : Nat} {Fb : Nat} : okQ G Fb 25 := ⟨by omega, by omega, by omega, by omega, by omega, by omega, by omega, by omega⟩
theorem RQ_upd {G : Nat} {Fb : Nat} {rc rm : Row} (h : RQ G Fb rc rm) {i : Nat} (hi : ¬ i = 16) (hi2 : ¬ (17 ≤ i ∧ i < 25)) (v : Int32) : RQ G Fb (upd rc i v) (upd rm i v) := by
  refine ⟨fun j hj => ?_, fun j hj hk => ?_⟩
  · by_cases e : j = i
    · rw [e, upd_at, upd_at]
    · rw [upd_ne e, upd_ne e]; exact h.1 j hj
  · rw [upd_ne (by omega)] at hk
    rw [upd_ne (by omega), upd_ne (by omega)]
    exact h.2 j hj hk
section Conq
variable {G Fb : Nat} {kd pc wn fk fr sec kd' pc' wn' fk' fr' sec' rc rm : Row}
theorem cq_mt (hp : PI G Fb kd' pc' wn' fk' fr' sec') (hA : AG G Fb kd pc wn fk fr sec kd' pc' wn' fk' fr' sec') (hR : RQ G Fb rc rm) {g f : Nat} (hg : g < G) (hf : f < Fb) (code : Int32) : mt kd wn sec rc g f code = mt kd' wn' sec' rm g f code := by
  unfold mt
  rw [(hA.1 g hg).1, (hA.1 g hg).2.2, (hA.2 f hf).2.2, hR.1 _ (oq38 hp.2.1 (by have := hp.1; omega) hf)]
theorem cq_find (hp : PI G Fb kd' pc' wn' fk' fr' sec') (hA : AG G Fb kd pc wn fk fr sec kd' pc' wn' fk' fr' sec') (hR : RQ G Fb rc rm) {g : Nat} (hg : g < G) (code : Int32) : ∀ n f, f + n = Fb → sfind kd wn sec rc g code n f = sfind kd' wn' sec' rm g code n f := by
  intro n
  induction n with
  | zero => intro f _; rfl
  | succ n ih =>
    intro f hf
    unfold sfind
    rw [cq_mt hp hA hR hg (by omega) code, ih (f + 1) (by omega)]
theorem cq_open (hR : RQ G Fb rc rm) {g : Nat} (hg : g < 4) (f : Nat) (c : Int32) : RQ G Fb (sopen rc g f c) (sopen rm g f c) := by
  unfold sopen
  rw [hR.1 _ (oq26 hg)]
  exact RQ_upd (RQ_upd (RQ_upd (RQ_upd hR (by omega) (by omega) _) (by omega) (by omega) _) (by omega) (by omega) _) (by omega) (by omega) _
theorem cq_hears (hp : PI G Fb kd' pc' wn' fk' fr' sec') (hA : AG G Fb kd pc wn fk fr sec kd' pc' wn' fk' fr' sec') (hR : RQ G Fb rc rm) (hI : RI G Fb rm) {g : Nat} (hg : g < G) (code : Int32) :
    (shears kd wn sec Fb rc g code).1 = (shears kd' wn' sec' Fb rm g code).1 ∧ RQ G Fb (shears kd wn sec Fb rc g code).2 (shears kd' wn' sec' Fb rm g code).2 := by
  have hG := hp.1
  unfold shears
  have e1 := hR.1 _ (oq30 (G := G) (Fb := Fb) (show g < min 4 G by omega))
  have e2 := hR.1 _ (oq34 (G := G) (Fb := Fb) (show g < min 4 G by omega))
  rw [e1, e2]
  have hsec : ¬ rm (30 + g) = -1 → sec (rm (30 + g)).toNatClampNeg = sec' (rm (30 + g)).toNatClampNeg := by
    intro hne
    exact (hA.2 _ (((hI.2.1 g (by omega)).resolve_left hne).nI (by have := hp.2.1; omega)).2).2.2
  by_cases h1 : ¬ rm (30 + g) = -1 ∧ cd (sec' (rm (30 + g)).toNatClampNeg) (rm (34 + g)) = code
  · rw [if_pos (show ¬ rm (30 + g) = -1 ∧ cd (sec (rm (30 + g)).toNatClampNeg) (rm (34 + g)) = code from ⟨h1.1, by rw [hsec h1.1]; exact h1.2⟩), if_pos h1]
    exact ⟨rfl, cq_open hR (by omega) _ _⟩
  · rw [if_neg (show ¬ (¬ rm (30 + g) = -1 ∧ cd (sec (rm (30 + g)).toNatClampNeg) (rm (34 + g)) = code) from fun e => h1 ⟨e.1, by rw [← hsec e.1]; exact e.2⟩), if_neg h1, cq_find hp hA hR hg code Fb 0 (by omega)]
    cases hs : sfind kd' wn' sec' rm g code Fb 0 with
    | none => exact ⟨rfl, hR⟩
    | some f =>
      obtain ⟨hf, hne⟩ := sfind_lt _ _ _ hs
      dsimp only
      rw [cq_mt hp hA hR hg (show f < Fb by omega) code, (hA.1 g hg).1, hR.1 _ (oq38 hp.2.1 (by omega) (show f < Fb by omega))]
      split
      · exact ⟨rfl, RQ_upd (RQ_upd hR (by omega) (by omega) _) (by omega) (by omega) _⟩
      · exact ⟨rfl, cq_open hR (by omega) _ _⟩
theorem cq_send (hp : PI G Fb kd' pc' wn' fk' fr' sec') (hA : AG G Fb kd pc wn fk fr sec kd' pc' wn' fk' fr' sec') (place reach code : Int32) : ∀ (n g : Nat) (s : Int32) (rc rm : Row), g + n = G → RQ G Fb rc rm → RI G Fb rm → WC G rm →
    (ssend kd pc wn sec Fb place reach code n g s rc).1 = (ssend kd' pc' wn' sec' Fb place reach code n g s rm).1 ∧ RQ G Fb (ssend kd pc wn sec Fb place reach code n g s rc).2 (ssend kd' pc' wn' sec' Fb place reach code n g s rm).2 := by
  intro n
  induction n with
  | zero => intro g s rc rm _ hR _ _; exact ⟨rfl, hR⟩
  | succ n ih =>
    intro g s rc rm hg hR hI hW
    unfold ssend
    have hc := cq_hears hp hA hR hI (show g < G by omega) code
    have hI2 := RI_hears (g := g) (code := code) hp hI hW (by omega)
    rw [hR.1 _ oq25, (hA.1 g (by omega)).2.1, hc.1]
    split
    · exact ih _ _ _ _ (by omega) hc.2 hI2.1 hI2.2.1
    · exact ih _ _ _ _ (by omega) hR hI hW
theorem cq_keep (hR : RQ G Fb rc rm) (code : Int32) : RQ G Fb (skeep rc code) (skeep rm code) := by
  have e16 := hR.1 _ (oq16 (Fb := Fb))
  refine ⟨fun j hj => ?_, fun j hj hk => ?_⟩
  · unfold skeep
    rw [e16]
    split
    · rfl
    · split
      · rfl
      · split
        · rename_i h
          exact absurd h (by have := hj.2.2.2.2.2.1; omega)
        · exact hR.1 j hj
  · by_cases h0 : j = 0
    · subst h0
      rw [show 17 + 0 = 17 from rfl, skeep_0, skeep_0]
    · rw [skeep_j rc code h0 hj, skeep_j rm code h0 hj]
      have hk2 : nI (j - 1) < rm 16 := by
        unfold skeep at hk
        rw [if_pos rfl] at hk
        have h1 : (nI (j - 1)).toInt = (nI j).toInt - 1 := by rw [nI_toInt (by omega), nI_toInt (by omega)]; omega
        by_cases h8 : rm 16 < 8
        · rw [if_pos h8] at hk
          have h2 := i32_succ h8
          rw [Int32.lt_iff_toInt_lt] at hk ⊢
          omega
        · rw [if_neg h8] at hk
          rw [Int32.lt_iff_toInt_lt] at hk ⊢
          omega
      have := hR.2 (j - 1) (by omega) hk2
      rw [show 17 + (j - 1) = 17 + j - 1 from by omega] at this
      exact this
theorem cq_by (hp : PI G Fb kd' pc' wn' fk' fr' sec') (hA : AG G Fb kd pc wn fk fr sec kd' pc' wn' fk' fr' sec') (E place reach code : Int32) (hR : RQ G Fb rc rm) (hI : RI G Fb rm) (hW : WC G rm) :
    (sby kd pc wn sec G Fb E place reach code rc).1 = (sby kd' pc' wn' sec' G Fb E place reach code rm).1 ∧ RQ G Fb (sby kd pc wn sec G Fb E place reach code rc).2 (sby kd' pc' wn' sec' G Fb E place reach code rm).2 := by
  have h := cq_send hp hA place reach code G 0 0 rc rm (by omega) hR hI hW
  unfold sby
  dsimp only
  rw [hR.1 _ oq15]
  refine ⟨h.1, ?_⟩
  split
  · exact cq_keep h.2 code
  · exact h.2
theorem cq_step (hF : Fb ≤ 5) {f : Nat} (hf : f < Fb) (hk : fk f = fk' f) (hR : RQ G Fb rc rm) : RQ G Fb (sstep fk f rc) (sstep fk' f rm) := by
  unfold sstep
  rw [hk, hR.1 _ (oq5 hF hf)]
  split
  · exact hR
  · exact RQ_upd hR (by omega) (by omega) _
theorem cq_press (hp : PI G Fb kd' pc' wn' fk' fr' sec') (hA : AG G Fb kd pc wn fk fr sec kd' pc' wn' fk' fr' sec') (E place : Int32) (hR : RQ G Fb rc rm) (hI : RI G Fb rm) (hW : WC G rm) {f : Nat} (hf : f < Fb) (hb : ¬ rm (10 + f) = 0) :
    (spress kd pc wn fk fr sec G Fb E f place rc).1 = (spress kd' pc' wn' fk' fr' sec' G Fb E f place rm).1 ∧ RQ G Fb (spress kd pc wn fk fr sec G Fb E f place rc).2 (spress kd' pc' wn' fk' fr' sec' G Fb E f place rm).2 := by
  have hF := hp.2.1
  have e10 := hR.1 _ (oq10 hF hf)
  obtain ⟨k, hk, he⟩ := hI.2.2.2.2.2.2.2.1 f hf
  have hk0 : ¬ k = 0 := fun e => hb (by rw [he, e]; rfl)
  have hbat : inN (rm (10 + f) - 1) 61 := ⟨k - 1, by omega, by rw [he]; exact pk_sub (b := 1) (by omega)⟩
  have hR0 : RQ G Fb (upd rc (10 + f) (rc (10 + f) - 1)) (upd rm (10 + f) (rm (10 + f) - 1)) := by rw [e10]; exact RQ_upd hR (by omega) (by omega) _
  have i0 := RI_10 (v := rm (10 + f) - 1) hF hI (show f < 5 by omega) hbat
  have w0 : WC G (upd rm (10 + f) (rm (10 + f) - 1)) := WC_upd hW (by omega)
  have hre : sreach fk fr f (upd rc (10 + f) (rc (10 + f) - 1)) = sreach fk' fr' f (upd rm (10 + f) (rm (10 + f) - 1)) := by
    unfold sreach
    rw [(hA.2 f hf).1, (hA.2 f hf).2.1, hR0.1 _ (oq10 hF hf)]
  have hR1 := cq_step (fk := fk) (fk' := fk') hF hf (hA.2 f hf).1 hR0
  have i1 := RI_step (fk := fk') hF hf i0 w0
  have c1 := cq_by hp hA E place (sreach fk' fr' f (upd rm (10 + f) (rm (10 + f) - 1))) (cd (sec' f) (sstep fk' f (upd rm (10 + f) (rm (10 + f) - 1)) (5 + f))) hR1 i1.1 i1.2
  have hcode : cd (sec f) (sstep fk f (upd rc (10 + f) (rc (10 + f) - 1)) (5 + f)) = cd (sec' f) (sstep fk' f (upd rm (10 + f) (rm (10 + f) - 1)) (5 + f)) := by rw [(hA.2 f hf).2.2, hR1.1 _ (oq5 hF hf)]
  unfold spress
  dsimp only
  rw [hre, hcode, (hA.2 f hf).1]
  by_cases h1 : fk' f = 1
  · rw [if_pos h1, if_pos h1]
    have i2 := RI_by (E := E) (place := place) (reach := sreach fk' fr' f (upd rm (10 + f) (rm (10 + f) - 1))) (code := cd (sec' f) (sstep fk' f (upd rm (10 + f) (rm (10 + f) - 1)) (5 + f))) hp i1.1 i1.2
    have hR2 := cq_step (fk := fk) (fk' := fk') hF hf (hA.2 f hf).1 c1.2
    have i3 := RI_step (fk := fk') hF hf i2.1 i2.2
    have c2 := cq_by hp hA E place (sreach fk' fr' f (upd rm (10 + f) (rm (10 + f) - 1))) (cd (sec' f) (sstep fk' f (sby kd' pc' wn' sec' G Fb E place (sreach fk' fr' f (upd rm (10 + f) (rm (10 + f) - 1))) (cd (sec' f) (sstep fk' f (upd rm (10 + f) (rm (10 + f) - 1)) (5 + f))) (sstep fk' f (upd rm (10 + f) (rm (10 + f) - 1)))).2 (5 + f))) hR2 i3.1 i3.2
    dsimp only
    rw [hR2.1 _ (oq5 hF hf), (hA.2 f hf).2.2, c1.1]
    exact ⟨by rw [c2.1], c2.2⟩
  · rw [if_neg h1, if_neg h1]
    exact c1
end Conq
theorem RQ_of {G : Nat} {Fb : Nat} {rc rm : Row} (h : RR G Fb rc rm) : RQ G Fb rc rm := ⟨fun i hi => h.1 i ⟨hi.1, hi.2.2⟩, h.2⟩
theorem RQ_0 {G : Nat} {Fb : Nat} {rc rm : Row} (h : RQ G Fb rc rm) {f : Nat} (hf : f < 5) (v : Int32) : RQ G Fb rc (upd rm f v) := ⟨fun i hi => by rw [upd_ne (by have := hi.2.1; omega)]; exact h.1 i hi, fun i hi hk => by rw [upd_ne (by omega)] at hk; rw [upd_ne (by omega)]; exact h.2 i hi hk⟩
