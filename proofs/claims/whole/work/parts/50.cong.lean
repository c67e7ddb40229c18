/-! the class's row and the model's agree where it matters: fobs that are there, codes that are kept -/
def okI (G Fb i : Nat) : Prop := i < 58 ∧ (i < 5 → i < Fb) ∧ (5 ≤ i → i < 10 → i - 5 < Fb) ∧ (10 ≤ i → i < 15 → i - 10 < Fb) ∧ ¬ (17 ≤ i ∧ i < 25) ∧ (38 ≤ i → i < 58 → (i - 38) % 5 < Fb) ∧ (30 ≤ i → i < 38 → (i - 30) % 4 < G)
def RR (G Fb : Nat) (rc rm : Row) : Prop := (∀ i, okI G Fb i → rc i = rm i) ∧ ∀ i, i < 8 → nI i < rm 16 → rc (17 + i) = rm (17 + i)
theorem ok26 {G : Nat} {Fb g : Nat} (h : g < 4) : okI G Fb (26 + g) := ⟨by omega, by omega, by omega, by omega, by omega, by omega, by omega⟩
theorem ok30 {G : Nat} {Fb g : Nat} (h : g < min 4 G) : okI G Fb (30 + g) := ⟨by omega, by omega, by omega, by omega, by omega, by omega, by omega⟩
theorem ok34 {G : Nat} {Fb g : Nat} (h : g < min 4 G) : okI G Fb (34 + g) := ⟨by omega, by omega, by omega, by omega, by omega, by omega, by omega⟩
theorem ok38 {G : Nat} {Fb g f : Nat} (hF : Fb ≤ 5) (h : g < 4) (hf : f < Fb) : okI G Fb (38 + 5 * g + f) := ⟨by omega, by omega, by omega, by omega, by omega, by omega, by omega⟩
theorem ok0 {G : Nat} {Fb f : Nat} (hF : Fb ≤ 5) (hf : f < Fb) : okI G Fb f := ⟨by omega, by omega, by omega, by omega, by omega, by omega, by omega⟩
theorem ok5 {G : Nat} {Fb f : Nat} (hF : Fb ≤ 5) (hf : f < Fb) : okI G Fb (5 + f) := ⟨by omega, by omega, by omega, by omega, by omega, by omega, by omega⟩
theorem ok10 {G : Nat} {Fb f : Nat} (hF : Fb ≤ 5) (hf : f < Fb) : okI G Fb (10 + f) := ⟨by omega, by omega, by omega, by omega, by omega, by omega, by omega⟩
theorem ok15 {G : Nat} {Fb : Nat} : okI G Fb 15 := ⟨by omega, by omega, by omega, by omega, by omega, by omega, by omega⟩
theorem ok16 {G : Nat} {Fb : Nat} : okI G Fb 16 := ⟨by omega, by omega, by omega, by omega, by omega, by omega, by omega⟩
theorem ok25 {G : Nat} {Fb : Nat} : okI G Fb 25 := ⟨by omega, by omega, by omega, by omega, by omega, by omega, by omega⟩
theorem RR_upd {G : Nat} {Fb : Nat} {rc rm : Row} (h : RR G Fb rc rm) {i : Nat} (hi : ¬ i = 16) (hi2 : ¬ (17 ≤ i ∧ i < 25)) (v : Int32) : RR G Fb (upd rc i v) (upd rm i v) := by
  refine ⟨fun j hj => ?_, fun j hj hk => ?_⟩
  · by_cases e : j = i
    · rw [e, upd_at, upd_at]
    · rw [upd_ne e, upd_ne e]; exact h.1 j hj
  · rw [upd_ne (by omega)] at hk
    rw [upd_ne (by omega), upd_ne (by omega)]
    exact h.2 j hj hk
theorem RR_RI {G : Nat} {Fb : Nat} {rc rm : Row} (hF : Fb ≤ 5) (h : RR G Fb rc rm) (hR : RI G Fb rm) : RI G Fb rc := by
  obtain ⟨a1, a2, a3, a4, a5, a6, a7, a8, a9, a10⟩ := hR
  exact ⟨fun g hg => by rw [h.1 _ (ok26 hg)]; exact a1 g hg, fun g hg => by rw [h.1 _ (ok30 hg)]; exact a2 g hg, by rw [h.1 _ ok16]; exact a3, by rw [h.1 _ ok25]; exact a4, fun f hf => by rw [h.1 _ (ok0 hF hf)]; exact a5 f hf, by rw [h.1 _ ok15]; exact a6, fun f hf => by rw [h.1 _ (ok5 hF hf)]; exact a7 f hf, fun f hf => by rw [h.1 _ (ok10 hF hf)]; exact a8 f hf, fun g hg f hf => by rw [h.1 _ (ok38 hF hg hf)]; exact a9 g hg f hf, trivial⟩
theorem RR_WC {G : Nat} {Fb : Nat} {rc rm : Row} (h : RR G Fb rc rm) (hW : WC G rm) : WC G rc := by
  intro g hg
  rw [h.1 _ (ok30 hg), h.1 _ (ok34 hg)]
  exact hW g hg
/-- two plans that agree -/
def AG (G Fb : Nat) (kd pc wn fk fr sec kd' pc' wn' fk' fr' sec' : Row) : Prop := (∀ g, g < G → kd g = kd' g ∧ pc g = pc' g ∧ wn g = wn' g) ∧ ∀ f, f < Fb → fk f = fk' f ∧ fr f = fr' f ∧ sec f = sec' f
section Cong
variable {G Fb : Nat} {kd pc wn fk fr sec kd' pc' wn' fk' fr' sec' rc rm : Row}
theorem cg_mt (hp : PI G Fb kd' pc' wn' fk' fr' sec') (hA : AG G Fb kd pc wn fk fr sec kd' pc' wn' fk' fr' sec') (hR : RR G Fb rc rm) {g f : Nat} (hg : g < G) (hf : f < Fb) (code : Int32) : mt kd wn sec rc g f code = mt kd' wn' sec' rm g f code := by
  unfold mt
  rw [(hA.1 g hg).1, (hA.1 g hg).2.2, (hA.2 f hf).2.2, hR.1 _ (ok38 hp.2.1 (by have := hp.1; omega) hf)]
theorem cg_find (hp : PI G Fb kd' pc' wn' fk' fr' sec') (hA : AG G Fb kd pc wn fk fr sec kd' pc' wn' fk' fr' sec') (hR : RR G Fb rc rm) {g : Nat} (hg : g < G) (code : Int32) : ∀ n f, f + n = Fb → sfind kd wn sec rc g code n f = sfind kd' wn' sec' rm g code n f := by
  intro n
  induction n with
  | zero => intro f _; rfl
  | succ n ih =>
    intro f hf
    unfold sfind
    rw [cg_mt hp hA hR hg (by omega) code, ih (f + 1) (by omega)]
theorem cg_open (hR : RR G Fb rc rm) {g : Nat} (hg : g < 4) (f : Nat) (c : Int32) : RR G Fb (sopen rc g f c) (sopen rm g f c) := by
  unfold sopen
  rw [hR.1 _ (ok26 hg)]
  exact RR_upd (RR_upd (RR_upd (RR_upd hR (by omega) (by omega) _) (by omega) (by omega) _) (by omega) (by omega) _) (by omega) (by omega) _
theorem cg_hears (hp : PI G Fb kd' pc' wn' fk' fr' sec') (hA : AG G Fb kd pc wn fk fr sec kd' pc' wn' fk' fr' sec') (hR : RR G Fb rc rm) (hI : RI G Fb rm) {g : Nat} (hg : g < G) (code : Int32) :
    (shears kd wn sec Fb rc g code).1 = (shears kd' wn' sec' Fb rm g code).1 ∧ RR G Fb (shears kd wn sec Fb rc g code).2 (shears kd' wn' sec' Fb rm g code).2 := by
  have hG := hp.1
  unfold shears
  have e1 := hR.1 _ (ok30 (G := G) (Fb := Fb) (show g < min 4 G by omega))
  have e2 := hR.1 _ (ok34 (G := G) (Fb := Fb) (show g < min 4 G by omega))
  rw [e1, e2]
  have hsec : ¬ rm (30 + g) = -1 → sec (rm (30 + g)).toNatClampNeg = sec' (rm (30 + g)).toNatClampNeg := by
    intro hne
    exact (hA.2 _ (((hI.2.1 g (by omega)).resolve_left hne).nI (by have := hp.2.1; omega)).2).2.2
  by_cases h1 : ¬ rm (30 + g) = -1 ∧ cd (sec' (rm (30 + g)).toNatClampNeg) (rm (34 + g)) = code
  · rw [if_pos (show ¬ rm (30 + g) = -1 ∧ cd (sec (rm (30 + g)).toNatClampNeg) (rm (34 + g)) = code from ⟨h1.1, by rw [hsec h1.1]; exact h1.2⟩), if_pos h1]
    exact ⟨rfl, cg_open hR (by omega) _ _⟩
  · rw [if_neg (show ¬ (¬ rm (30 + g) = -1 ∧ cd (sec (rm (30 + g)).toNatClampNeg) (rm (34 + g)) = code) from fun e => h1 ⟨e.1, by rw [← hsec e.1]; exact e.2⟩), if_neg h1, cg_find hp hA hR hg code Fb 0 (by omega)]
    cases hs : sfind kd' wn' sec' rm g code Fb 0 with
    | none => exact ⟨rfl, hR⟩
    | some f =>
      obtain ⟨hf, hne⟩ := sfind_lt _ _ _ hs
      dsimp only
      rw [cg_mt hp hA hR hg (show f < Fb by omega) code, (hA.1 g hg).1, hR.1 _ (ok38 hp.2.1 (by omega) (show f < Fb by omega))]
      split
      · exact ⟨rfl, RR_upd (RR_upd hR (by omega) (by omega) _) (by omega) (by omega) _⟩
      · exact ⟨rfl, cg_open hR (by omega) _ _⟩
theorem cg_send (hp : PI G Fb kd' pc' wn' fk' fr' sec') (hA : AG G Fb kd pc wn fk fr sec kd' pc' wn' fk' fr' sec') (place reach code : Int32) : ∀ (n g : Nat) (s : Int32) (rc rm : Row), g + n = G → RR G Fb rc rm → RI G Fb rm → WC G rm →
    (ssend kd pc wn sec Fb place reach code n g s rc).1 = (ssend kd' pc' wn' sec' Fb place reach code n g s rm).1 ∧ RR G Fb (ssend kd pc wn sec Fb place reach code n g s rc).2 (ssend kd' pc' wn' sec' Fb place reach code n g s rm).2 := by
  intro n
  induction n with
  | zero => intro g s rc rm _ hR _ _; exact ⟨rfl, hR⟩
  | succ n ih =>
    intro g s rc rm hg hR hI hW
    unfold ssend
    have hc := cg_hears hp hA hR hI (show g < G by omega) code
    have hI2 := RI_hears (g := g) (code := code) hp hI hW (by omega)
    rw [hR.1 _ ok25, (hA.1 g (by omega)).2.1, hc.1]
    split
    · exact ih _ _ _ _ (by omega) hc.2 hI2.1 hI2.2.1
    · exact ih _ _ _ _ (by omega) hR hI hW
theorem skeep_0 (r : Row) (code : Int32) : skeep r code 17 = code := by
  unfold skeep
  rw [if_neg (by omega), if_pos rfl]
theorem skeep_j (r : Row) (code : Int32) {j : Nat} (h : ¬ j = 0) (h8 : j < 8) : skeep r code (17 + j) = r (17 + j - 1) := by
  unfold skeep
  rw [if_neg (show ¬ 17 + j = 16 by omega), if_neg (show ¬ 17 + j = 17 by omega), if_pos (show 18 ≤ 17 + j ∧ 17 + j ≤ 24 by omega)]
theorem cg_keep (hR : RR G Fb rc rm) (code : Int32) : RR G Fb (skeep rc code) (skeep rm code) := by
  have e16 := hR.1 _ (ok16 (Fb := Fb))
  refine ⟨fun j hj => ?_, fun j hj hk => ?_⟩
  · unfold skeep
    rw [e16]
    split
    · rfl
    · split
      · rfl
      · split
        · rename_i h
          exact absurd h (by have := hj.2.2.2.2.1; omega)
        · exact hR.1 j hj
  · by_cases h0 : j = 0
    · subst h0
      rw [show 17 + 0 = 17 from rfl, skeep_0, skeep_0]
    · rw [skeep_j rc code h0 hj, skeep_j rm code h0 hj]
      have hk2 : nI (j - 1) < rm 16 := by
        unfold skeep at hk
        rw [if_pos rfl] at hk
        have h1 : (nI (j - 1)).toInt = (nI j).toInt - 1 := by rw [nI_toInt (by omega), nI_toInt (by omega)]; omega
        by_cases h8 : rm 16 < 8
        · rw [if_pos h8] at hk
          have h2 := i32_succ h8
          rw [Int32.lt_iff_toInt_lt] at hk ⊢
          omega
        · rw [if_neg h8] at hk
          rw [Int32.lt_iff_toInt_lt] at hk ⊢
          omega
      have := hR.2 (j - 1) (by omega) hk2
      rw [show 17 + (j - 1) = 17 + j - 1 from by omega] at this
      exact this
theorem cg_by (hp : PI G Fb kd' pc' wn' fk' fr' sec') (hA : AG G Fb kd pc wn fk fr sec kd' pc' wn' fk' fr' sec') (E place reach code : Int32) (hR : RR G Fb rc rm) (hI : RI G Fb rm) (hW : WC G rm) :
    (sby kd pc wn sec G Fb E place reach code rc).1 = (sby kd' pc' wn' sec' G Fb E place reach code rm).1 ∧ RR G Fb (sby kd pc wn sec G Fb E place reach code rc).2 (sby kd' pc' wn' sec' G Fb E place reach code rm).2 := by
  have h := cg_send hp hA place reach code G 0 0 rc rm (by omega) hR hI hW
  unfold sby
  dsimp only
  rw [hR.1 _ ok15]
  refine ⟨h.1, ?_⟩
  split
  · exact cg_keep h.2 code
  · exact h.2
theorem cg_step (hF : Fb ≤ 5) {f : Nat} (hf : f < Fb) (hk : fk f = fk' f) (hR : RR G Fb rc rm) : RR G Fb (sstep fk f rc) (sstep fk' f rm) := by
  unfold sstep
  rw [hk, hR.1 _ (ok5 hF hf)]
  split
  · exact hR
  · exact RR_upd hR (by omega) (by omega) _
theorem cg_press (hp : PI G Fb kd' pc' wn' fk' fr' sec') (hA : AG G Fb kd pc wn fk fr sec kd' pc' wn' fk' fr' sec') (E place : Int32) (hR : RR G Fb rc rm) (hI : RI G Fb rm) (hW : WC G rm) {f : Nat} (hf : f < Fb) (hb : ¬ rm (10 + f) = 0) :
    (spress kd pc wn fk fr sec G Fb E f place rc).1 = (spress kd' pc' wn' fk' fr' sec' G Fb E f place rm).1 ∧ RR G Fb (spress kd pc wn fk fr sec G Fb E f place rc).2 (spress kd' pc' wn' fk' fr' sec' G Fb E f place rm).2 := by
  have hF := hp.2.1
  have e10 := hR.1 _ (ok10 hF hf)
  obtain ⟨k, hk, he⟩ := hI.2.2.2.2.2.2.2.1 f hf
  have hk0 : ¬ k = 0 := fun e => hb (by rw [he, e]; rfl)
  have hbat : inN (rm (10 + f) - 1) 61 := ⟨k - 1, by omega, by rw [he]; exact pk_sub (b := 1) (by omega)⟩
  have hR0 : RR G Fb (upd rc (10 + f) (rc (10 + f) - 1)) (upd rm (10 + f) (rm (10 + f) - 1)) := by rw [e10]; exact RR_upd hR (by omega) (by omega) _
  have i0 := RI_10 (v := rm (10 + f) - 1) hF hI (show f < 5 by omega) hbat
  have w0 : WC G (upd rm (10 + f) (rm (10 + f) - 1)) := WC_upd hW (by omega)
  have hre : sreach fk fr f (upd rc (10 + f) (rc (10 + f) - 1)) = sreach fk' fr' f (upd rm (10 + f) (rm (10 + f) - 1)) := by
    unfold sreach
    rw [(hA.2 f hf).1, (hA.2 f hf).2.1, hR0.1 _ (ok10 hF hf)]
  have hR1 := cg_step (fk := fk) (fk' := fk') hF hf (hA.2 f hf).1 hR0
  have i1 := RI_step (fk := fk') hF hf i0 w0
  have c1 := cg_by hp hA E place (sreach fk' fr' f (upd rm (10 + f) (rm (10 + f) - 1))) (cd (sec' f) (sstep fk' f (upd rm (10 + f) (rm (10 + f) - 1)) (5 + f))) hR1 i1.1 i1.2
  have hcode : cd (sec f) (sstep fk f (upd rc (10 + f) (rc (10 + f) - 1)) (5 + f)) = cd (sec' f) (sstep fk' f (upd rm (10 + f) (rm (10 + f) - 1)) (5 + f)) := by rw [(hA.2 f hf).2.2, hR1.1 _ (ok5 hF hf)]
  unfold spress
  dsimp only
  rw [hre, hcode, (hA.2 f hf).1]
  by_cases h1 : fk' f = 1
  · rw [if_pos h1, if_pos h1]
    have i2 := RI_by (E := E) (place := place) (reach := sreach fk' fr' f (upd rm (10 + f) (rm (10 + f) - 1))) (code := cd (sec' f) (sstep fk' f (upd rm (10 + f) (rm (10 + f) - 1)) (5 + f))) hp i1.1 i1.2
    have hR2 := cg_step (fk := fk) (fk' := fk') hF hf (hA.2 f hf).1 c1.2
    have i3 := RI_step (fk := fk') hF hf i2.1 i2.2
    have c2 := cg_by hp hA E place (sreach fk' fr' f (upd rm (10 + f) (rm (10 + f) - 1))) (cd (sec' f) (sstep fk' f (sby kd' pc' wn' sec' G Fb E place (sreach fk' fr' f (upd rm (10 + f) (rm (10 + f) - 1))) (cd (sec' f) (sstep fk' f (upd rm (10 + f) (rm (10 + f) - 1)) (5 + f))) (sstep fk' f (upd rm (10 + f) (rm (10 + f) - 1)))).2 (5 + f))) hR2 i3.1 i3.2
    dsimp only
    rw [hR2.1 _ (ok5 hF hf), (hA.2 f hf).2.2, c1.1]
    exact ⟨by rw [c2.1], c2.2⟩
  · rw [if_neg h1, if_neg h1]
    exact c1
end Cong
/-! hours: nobody touches them but an hour -/
theorem sopen_58 {r : Row} {g f : Nat} {c : Int32} (hg : g < 4) (hf : f < 5) : sopen r g f c 58 = r 58 := by
  unfold sopen
  rw [upd_ne (by omega), upd_ne (by omega), upd_ne (by omega), upd_ne (by omega)]
theorem shears_58 {G Fb g : Nat} {kd pc wn fk fr sec r : Row} {code : Int32} (hp : PI G Fb kd pc wn fk fr sec) (h : RI G Fb r) (hg : g < G) : (shears kd wn sec Fb r g code).2 58 = r 58 := by
  have hG := hp.1
  have hF := hp.2.1
  unfold shears
  by_cases h1 : ¬ r (30 + g) = -1 ∧ cd (sec (r (30 + g)).toNatClampNeg) (r (34 + g)) = code
  · rw [if_pos h1]
    have := (((h.2.1 g (by omega)).resolve_left h1.1).nI (by omega)).2
    exact sopen_58 (by omega) (by omega)
  · rw [if_neg h1]
    cases hs : sfind kd wn sec r g code Fb 0 with
    | none => rfl
    | some f =>
      have hf := (sfind_lt _ _ _ hs).1
      dsimp only
      split
      · dsimp only
        rw [upd_ne (by omega), upd_ne (by omega)]
      · exact sopen_58 (by omega) (by omega)
theorem ssend_58 {G Fb : Nat} {kd pc wn fk fr sec : Row} {place reach code : Int32} (hp : PI G Fb kd pc wn fk fr sec) : ∀ (n g : Nat) (s : Int32) (r : Row), g + n = G → RI G Fb r → WC G r → (ssend kd pc wn sec Fb place reach code n g s r).2 58 = r 58 := by
  intro n
  induction n with
  | zero => intro g s r _ _ _; rfl
  | succ n ih =>
    intro g s r hg h1 h2
    unfold ssend
    have hI := RI_hears (g := g) (code := code) hp h1 h2 (by omega)
    split
    · rw [ih _ _ _ (by omega) hI.1 hI.2.1, shears_58 hp h1 (by omega)]
    · exact ih _ _ _ (by omega) h1 h2
theorem sby_58 {G Fb : Nat} {kd pc wn fk fr sec r : Row} {E place reach code : Int32} (hp : PI G Fb kd pc wn fk fr sec) (h : RI G Fb r) (hw : WC G r) : (sby kd pc wn sec G Fb E place reach code r).2 58 = r 58 := by
  unfold sby
  dsimp only
  split
  · rw [skeep_keep (by omega), ssend_58 hp _ _ _ _ (by omega) h hw]
  · rw [ssend_58 hp _ _ _ _ (by omega) h hw]
theorem sstep_58 {fk r : Row} {f : Nat} (hf : f < 5) : sstep fk f r 58 = r 58 := by
  unfold sstep
  split
  · rfl
  · rw [upd_ne (by omega)]
theorem spress_58 {G Fb f : Nat} {kd pc wn fk fr sec r : Row} {E place : Int32} (hp : PI G Fb kd pc wn fk fr sec) (hf : f < Fb) (h : RI G Fb r) (hw : WC G r) (hb : ¬ r (10 + f) = 0) : (spress kd pc wn fk fr sec G Fb E f place r).2 58 = r 58 := by
  have hF := hp.2.1
  obtain ⟨k, hk, he⟩ := h.2.2.2.2.2.2.2.1 f hf
  have hk0 : ¬ k = 0 := fun e => hb (by rw [he, e]; rfl)
  have hbat : inN (r (10 + f) - 1) 61 := ⟨k - 1, by omega, by rw [he]; exact pk_sub (b := 1) (by omega)⟩
  have r0 := RI_10 (v := r (10 + f) - 1) hF h (show f < 5 by omega) hbat
  have w0 : WC G (upd r (10 + f) (r (10 + f) - 1)) := WC_upd hw (by omega)
  have hs := RI_step (fk := fk) hF hf r0 w0
  unfold spress
  dsimp only
  have hI := RI_by (E := E) (place := place) (reach := sreach fk fr f (upd r (10 + f) (r (10 + f) - 1))) (code := cd (sec f) (sstep fk f (upd r (10 + f) (r (10 + f) - 1)) (5 + f))) hp hs.1 hs.2
  split
  · have hs2 := RI_step (fk := fk) hF hf hI.1 hI.2
    rw [sby_58 hp hs2.1 hs2.2, sstep_58 (by omega), sby_58 hp hs.1 hs.2, sstep_58 (by omega), upd_ne (by omega)]
  · rw [sby_58 hp hs.1 hs.2, sstep_58 (by omega), upd_ne (by omega)]
