/-! what holds between the calls -/
def Pn (G Fb : Nat) (pl mo : Grp) : Prop := CP pl G Fb ∧ MP mo G Fb ∧ AG G Fb (pl 6) (pl 7) (pl 8) (pl 9) (pl 11) (pl 12) (mo 5) (mo 6) (mo 7) (mo 9) (mo 11) (mo 12) ∧ pl 0 0 = mo 0 0 ∧ (mo 0 0 = 0 ∨ mo 0 0 = 1) ∧ pl 0 2 = mo 0 2 ∧ inN (mo 0 2) 10
def Tx (tx mo : Grp) : Prop := ∃ n, n ≤ 240 ∧ tx 0 1 = nI n ∧ mo 0 16 = nI n ∧ ∀ i, i < n → tx 1 i = mo 16 i ∧ inN (mo 16 i) 256
def Pa (G Fb : Nat) (pa : Grp) (sc : Nat → Grp) (mo : Grp) : Prop := ∃ s nx, s ≤ 16 ∧ nx < 16 ∧ pa 0 2 = nI s ∧ pa 0 1 = nI nx ∧ mo 0 32 = nI s ∧ ∀ j, j < s → SS G Fb (toRow (sc (2 + (nx + 16 - s + j) % 16))) (fun i => mo 34 (59 * j + i))
def Ig (G Fb : Nat) (im : Grp) (sc : Nat → Grp) (mo : Grp) : Prop := ∀ i, i < 2 → im 3 i = mo 46 i ∧ (mo 46 i = 0 ∨ mo 46 i = 1) ∧ (mo 46 i = 1 → SS G Fb (toRow (sc (18 + i))) (fun k => mo 45 (60 * i + k)) ∧ im 2 i = mo 45 (60 * i + 59) ∧ inN (mo 45 (60 * i + 59)) (2 ^ 31))
def Sn (se mo : Grp) : Prop := ∃ n, n ≤ 6 ∧ se 0 2 = nI n ∧ mo 0 37 = nI n ∧ ∀ s, s < 256 → (se 1 s = 0 ∨ se 1 s = 1) ∧ (se 1 s = 1 ↔ ∀ k, k < n → cd (nI s) (mo 39 k) = mo 40 k)
def Bk (G : Nat) (bk mo : Grp) : Prop := ∃ n, n ≤ 15 ∧ bk 0 2 = nI n ∧ mo 0 41 = nI n ∧ ∀ k, k < n → bk 1 k = mo 43 k ∧ inN (mo 43 k) G ∧ bk 2 k = mo 44 k
def Dw (dr mo : Grp) : Prop := dr 0 0 = mo 0 14 ∧ inN (mo 0 14) (2 ^ 31)
def INV (G Fb : Nat) (σ : Mem) : Prop := Pn G Fb (σ 4 0) (σ 11 0) ∧ SS G Fb (toRow (σ 7 0)) (σ 11 0 14) ∧ Tx (σ 9 0) (σ 11 0) ∧ σ 10 0 0 11 = σ 11 0 0 17 ∧ Pa G Fb (σ 3 0) (σ 7) (σ 11 0) ∧ Ig G Fb (σ 2 0) (σ 7) (σ 11 0) ∧ Sn (σ 8 0) (σ 11 0) ∧ Bk G (σ 0 0) (σ 11 0) ∧ Dw (σ 1 0) (σ 11 0)
theorem Pa_sc {G : Nat} {Fb : Nat} {pa mo : Grp} {sc sc' : Nat → Grp} (h : Pa G Fb pa sc mo) (he : ∀ k, 2 ≤ k → k < 18 → sc' k = sc k) : Pa G Fb pa sc' mo := by
  obtain ⟨s, nx, h1, h2, h3, h4, h5, h6⟩ := h
  exact ⟨s, nx, h1, h2, h3, h4, h5, fun j hj => by rw [he _ (by omega) (by omega)]; exact h6 j hj⟩
theorem Ig_sc {G : Nat} {Fb : Nat} {im mo : Grp} {sc sc' : Nat → Grp} (h : Ig G Fb im sc mo) (he : ∀ k, 18 ≤ k → k < 20 → sc' k = sc k) : Ig G Fb im sc' mo := by
  intro i hi
  obtain ⟨h1, h2, h3⟩ := h i hi
  exact ⟨h1, h2, fun h4 => by rw [he _ (by omega) (by omega)]; exact h3 h4⟩
theorem up7 {σ : Mem} {g : Grp} {k0 k : Nat} (h : ¬ k = k0) : upM σ 7 k0 g 7 k = σ 7 k := upM_ne (fun e => h e.2)
/-- a new state, everything else as it was -/
theorem INV_now {G Fb : Nat} {σ : Mem} (h : INV G Fb σ) {nw : Grp} {rm : Row} (hS : SS G Fb (toRow nw) rm) : INV G Fb (upM (upM σ 7 0 nw) 11 0 (wa (σ 11 0) 14 rm)) := by
  obtain ⟨h1, h2, h3, h4, h5, h6, h7, h8, h9⟩ := h
  refine ⟨?_, ?_, h3, h4, Pa_sc h5 (fun k hk _ => up7 (by omega)), Ig_sc h6 (fun k hk _ => up7 (by omega)), h7, h8, h9⟩
  · exact ⟨h1.1, MP_row h1.2.1 rm, h1.2.2⟩
  · have e1 : upM (upM σ 7 0 nw) 11 0 (wa (σ 11 0) 14 rm) 7 0 = nw := rfl
    have e2 : upM (upM σ 7 0 nw) 11 0 (wa (σ 11 0) 14 rm) 11 0 14 = rm := rfl
    rw [e1, e2]
    exact hS
/-! remember -/
def blk (f g : Row) (o n : Nat) : Row := fun i => if o ≤ i ∧ i < o + n then f (i - o) else g i
theorem blk_0 (f g : Row) (o : Nat) : blk f g o 0 = g := by
  funext i
  simp only [blk]
  rw [if_neg (by omega)]
theorem blk_succ (f g : Row) (o k : Nat) : upd (blk f g o k) (o + k) (f k) = blk f g o (k + 1) := by
  funext i
  by_cases e : i = o + k
  · subst e
    rw [upd_at]
    simp only [blk]
    rw [if_pos (by omega)]
    congr 1
    omega
  · rw [upd_ne e]
    simp only [blk]
    by_cases h : o ≤ i ∧ i < o + k
    · rw [if_pos h, if_pos (by omega)]
    · rw [if_neg h, if_neg (by omega)]
theorem ix59 (s k : Nat) : (59 : Int32) * nI s + nI k = nI (59 * s + k) := by rw [show (59 : Int32) = nI 59 from rfl, nI_mul, nI_add]
theorem ix60 (s k : Nat) : (60 : Int32) * nI s + nI k = nI (60 * s + k) := by rw [show (60 : Int32) = nI 60 from rfl, nI_mul, nI_add]
theorem m_rem52 (mo : Grp) {s : Nat} (hs : s < 16) (h32 : mo 0 32 = nI s) : ∀ (n k fu : Nat), k + n = 59 → n + 1 ≤ fu → fX11_remember_52 fu (wa mo 34 (blk (mo 14) (mo 34) (59 * s) k)) (nI k) = some (wr (wa mo 34 (blk (mo 14) (mo 34) (59 * s) 59)) 0 32 (nI (s + 1))) := by
  intro n
  induction n with
  | zero =>
    intro k fu hk hf
    obtain ⟨fu, rfl⟩ : ∃ z, fu = z + 1 := ⟨fu - 1, by omega⟩
    obtain rfl : k = 59 := by omega
    rw [fX11_remember_52, if_neg (by decide), lt_e, wa_oth _ (by omega), h32, ix1]
  | succ n ih =>
    intro k fu hk hf
    obtain ⟨fu, rfl⟩ : ∃ z, fu = z + 1 := ⟨fu - 1, by omega⟩
    rw [fX11_remember_52, if_pos (by rw [show (59 : Int32) = nI 59 from rfl]; exact nI_lt (by omega) (by omega)), wa_oth _ (show ¬ 0 = 34 by omega), h32, ix59, ab_e (by omega) (by omega), ab_e (by omega) (by omega), lt_e, lt_e, nI_clamp (by omega), nI_clamp (by omega), ix1, wr_wa2, wa_oth _ (by omega), blk_succ]
    exact ih (k + 1) fu (by omega) (by omega)
theorem m_rem50 (mo : Grp) {s : Nat} (hs : s < 16) (h32 : mo 0 32 = nI s) : fX11_remember_50 mo = some (wr (wa mo 34 (blk (mo 14) (mo 34) (59 * s) 59)) 0 32 (nI (s + 1))) := by
  unfold fX11_remember_50
  have e := m_rem52 mo hs h32 59 0 1000 (by omega) (by omega)
  rw [blk_0, wa_self] at e
  exact e
def shf (g : Row) (k : Nat) : Row := fun i => if i < k then g (i + 59) else g i
theorem m_rem12 (mo : Grp) (h32 : mo 0 32 = nI 16) : ∀ (n k fu : Nat), k + n = 885 → n + 1 ≤ fu → fX11_remember_12 fu (wa mo 34 (shf (mo 34) k)) (nI (k + 59)) = fX11_remember_50 (wr (wa mo 34 (shf (mo 34) 885)) 0 32 (nI 15)) := by
  intro n
  induction n with
  | zero =>
    intro k fu hk hf
    obtain ⟨fu, rfl⟩ : ∃ z, fu = z + 1 := ⟨fu - 1, by omega⟩
    obtain rfl : k = 885 := by omega
    rw [fX11_remember_12, if_neg (by decide), lt_e, wa_oth _ (by omega), h32]
    rfl
  | succ n ih =>
    intro k fu hk hf
    obtain ⟨fu, rfl⟩ : ∃ z, fu = z + 1 := ⟨fu - 1, by omega⟩
    have hsub : nI (k + 59) - 59 = nI k := pk_sub (a := k + 59) (b := 59) (by omega)
    rw [fX11_remember_12, if_pos (by rw [show (944 : Int32) = nI 944 from rfl]; exact nI_lt (by omega) (by omega)), hsub, ab_e (by omega) (by omega), ab_e (by omega) (by omega), lt_e, lt_e, nI_clamp (by omega), nI_clamp (by omega), ix1, wr_wa2, wa_row]
    have e : upd (shf (mo 34) k) k (shf (mo 34) k (k + 59)) = shf (mo 34) (k + 1) := by
      funext i
      by_cases e : i = k
      · subst e
        rw [upd_at]
        simp only [shf]
        rw [if_neg (by omega), if_pos (by omega)]
      · rw [upd_ne e]
        simp only [shf]
        by_cases h : i < k
        · rw [if_pos h, if_pos (by omega)]
        · rw [if_neg h, if_neg (by omega)]
    rw [e]
    have := ih (k + 1) fu (by omega) (by omega)
    rw [show k + 1 + 59 = k + 59 + 1 from by omega] at this
    exact this
/-- what remembering leaves of the model -/
theorem m_rem (mo : Grp) {s : Nat} (hs : s ≤ 16) (h32 : mo 0 32 = nI s) : ∃ (p : Row) (s' : Nat), fX11_remember mo = some (wr (wa mo 34 p) 0 32 (nI s')) ∧ s' = (if s = 16 then 16 else s + 1) ∧ (∀ k, k < 59 → p (59 * (s' - 1) + k) = mo 14 k) ∧ ∀ j k, j < s' - 1 → k < 59 → p (59 * j + k) = mo 34 (59 * (if s = 16 then j + 1 else j) + k) := by
  unfold fX11_remember
  by_cases h : s = 16
  · subst h
    have e := m_rem12 mo h32 885 0 1000 (by omega) (by omega)
    rw [show shf (mo 34) 0 = mo 34 from by funext i; simp [shf], wa_self] at e
    rw [h32, if_pos rfl, show (59 : Int32) = nI (0 + 59) from rfl, e]
    have e2 := m_rem50 (wr (wa mo 34 (shf (mo 34) 885)) 0 32 (nI 15)) (s := 15) (by omega) (wr_eq _ _ _ _)
    rw [e2]
    refine ⟨blk (mo 14) (shf (mo 34) 885) (59 * 15) 59, 16, ?_, rfl, ?_, ?_⟩
    · refine congrArg some ?_
      funext j
      by_cases h0 : j = 0
      · subst h0
        rw [wr_row, wr_row, wa_oth _ (by omega), wa_oth _ (by omega), wr_row, wa_oth _ (by omega)]
        funext i
        by_cases hi : i = 32
        · rw [hi, upd_at, upd_at]
        · rw [upd_ne hi, upd_ne hi, upd_ne hi]
      · rw [wr_oth _ h0, wr_oth _ h0]
        by_cases h34 : j = 34
        · subst h34
          rw [wa_row, wa_row, wr_oth _ (by omega), wr_oth _ (by omega), wa_oth _ (by omega), wa_row]
        · rw [wa_oth _ h34, wa_oth _ h34, wr_oth _ h0, wa_oth _ h34]
    · intro k hk
      simp only [blk]
      rw [if_pos (by omega)]
      exact congrArg (mo 14) (by omega)
    · intro j k hj hk
      simp only [blk]
      rw [if_neg (by omega)]
      simp only [shf]
      rw [if_pos (by omega), if_pos trivial]
      exact congrArg (mo 34) (by omega)
  · rw [h32, if_neg (by rw [show (16 : Int32) = nI 16 from rfl]; exact fun e => h ((nI_inj (by omega) (by omega)).mp e)), m_rem50 mo (by omega) h32]
    refine ⟨_, s + 1, rfl, by rw [if_neg h], ?_, ?_⟩
    · intro k hk
      simp only [blk]
      rw [if_pos (by omega)]
      congr 1
      omega
    · intro j k hj hk
      simp only [blk]
      have : 59 * j + k < 59 * s := by omega
      rw [if_neg (by omega), if_neg h]
theorem c_rem (σ : Mem) {s nx : Nat} (hs : s ≤ 16) (hn : nx < 16) (h2 : σ 3 0 0 2 = nI s) (h1 : σ 3 0 0 1 = nI nx) : ∃ (sc' pa' : Grp), fX3_remember σ = some (upM (upM σ 7 (2 + nx) sc') 3 0 pa') ∧ toRow sc' = toRow (σ 7 0) ∧ pa' 0 1 = nI ((nx + 1) % 16) ∧ pa' 0 2 = nI (if s = 16 then 16 else s + 1) := by
  unfold fX3_remember
  obtain ⟨sc', e1, e2⟩ := c_copy (σ 7 (2 + nx)) (σ 7 0)
  simp only [lt_e]
  rw [h1, ab_e (by omega) (by omega), nI_clamp (by omega), e1, bd_e]
  have hg : upM σ 7 (2 + nx) sc' 3 0 = σ 3 0 := rfl
  rw [hg, h1, ix1, show jrem (nI (nx + 1)) 16 = nI ((nx + 1) % 16) from jrem_nI (b := 16) (by omega) (by omega) (by omega), upM_same, upM_upM]
  have h22 : wr (σ 3 0) 0 1 (nI ((nx + 1) % 16)) 0 2 = nI s := by rw [wr_ne (by omega)]; exact h2
  rw [h22, ix1]
  have hmin : (if (16 : Int32) < nI (s + 1) then (16 : Int32) else nI (s + 1)) = nI (if s = 16 then 16 else s + 1) := by
    by_cases h : s = 16
    · subst h; rfl
    · rw [if_neg (by rw [show (16 : Int32) = nI 16 from rfl]; exact nI_nlt (by omega) (by omega)), if_neg h]
  rw [hmin]
  refine ⟨sc', _, rfl, e2, ?_, ?_⟩
  · rw [wr_ne (by omega)]; exact wr_eq _ _ _ _
  · exact wr_eq _ _ _ _
