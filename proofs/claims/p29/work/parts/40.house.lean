/-! THE CLASS's cells (κ) beside the reference's row (σ); d: ticks that its counter is ahead -/
def Rep (d : Nat) (κ σ : Nat → Nat) : Prop :=
  κ 0 = σ 0 ∧ κ 1 = σ 2 ∧ κ 2 = σ 1 + d ∧ κ 3 = σ 3 ∧ (∀ k, k < 36 → κ (4 + k) = σ (4 + k)) ∧ (∀ k, k < 36 → κ (40 + k) = tk σ k) ∧ (∀ i w, i < σ 0 → w < 9 → κ (76 + i * 18 + w) = σ (40 + 18 * i + w)) ∧ (∀ i p, i < σ 0 → p < σ (40 + 18 * i + 1) → κ (76 + i * 18 + (9 + p)) = σ (40 + 18 * i + (9 + p))) ∧ (∀ i, σ 0 ≤ i → i < 10 → κ (76 + i * 18) = 4294967295)
section HO
variable {σ τ κ : Nat → Nat} {d i k w v x : Nat}
theorem Rep.w0 (h : Rep d κ σ) (hi : i < σ 0) : κ (76 + i * 18) = σ (40 + 18 * i) := by
  have := h.2.2.2.2.2.2.1 i 0 hi (by omega)
  exact this
theorem Rep.nm (h : Rep d κ σ) (hi : i < σ 0) (hw : w < 9) : κ (76 + i * 18 + w) = σ (40 + 18 * i + w) := h.2.2.2.2.2.2.1 i w hi hw
theorem Rep.r (h : Rep d κ σ) (hi : i < σ 0) {p : Nat} (hp : p < σ (40 + 18 * i + 1)) : κ (76 + i * 18 + (9 + p)) = σ (40 + 18 * i + (9 + p)) := h.2.2.2.2.2.2.2.1 i p hi hp
theorem number_c (hi : i < 10) (hw : w < 18) : fX0_number (E κ) (nI i) (nI w) = some (nI (κ (76 + i * 18 + w))) := by
  simp (disch := omega) only [fX0_number, Nat.add_zero, upN_ne, upN_same, m_lit, m_neg1, m_add, m_mul, m_sub, m_div, m_le, m_lt, m_eq, m_cl, m_gd, m_E, m_upd, m_isz0, m_isz1, Option.bind_some]
  rw [if_neg (by omega), if_neg (by omega), if_neg (by omega), if_pos (by omega)]
theorem setNumber_c (hi : i < 10) (hw : w < 18) : fX0_setNumber (E κ) (nI i) (nI w) (nI v) = some (E (upN κ (76 + i * 18 + w) v)) := by
  simp (disch := omega) only [fX0_setNumber, Nat.add_zero, upN_ne, upN_same, m_lit, m_neg1, m_add, m_mul, m_sub, m_div, m_le, m_lt, m_eq, m_cl, m_gd, m_E, m_upd, m_isz0, m_isz1, Option.bind_some]
  rw [if_neg (by omega), if_neg (by omega), if_neg (by omega), if_neg (by omega)]
theorem isRoom_c (hk : k < 36) : fX3_isRoom (nI k) = some (nI 1) := by
  simp (disch := omega) only [fX3_isRoom, Nat.add_zero, upN_ne, upN_same, m_lit, m_neg1, m_add, m_mul, m_sub, m_div, m_le, m_lt, m_eq, m_cl, m_gd, m_E, m_upd, m_isz0, m_isz1, Option.bind_some]
  rw [if_neg (by omega), if_neg (by omega)]
theorem isRoom_cf {y : Int32} (h : ∀ n, n < 36 → y ≠ nI n) : fX3_isRoom y = some (nI 0) := by
  rcases nI_cases y with ⟨hy, -⟩ | ⟨n, hn, rfl⟩
  · unfold fX3_isRoom
    rw [if_pos hy]; rfl
  · simp (disch := omega) only [fX3_isRoom, Nat.add_zero, upN_ne, upN_same, m_lit, m_neg1, m_add, m_mul, m_sub, m_div, m_le, m_lt, m_eq, m_cl, m_gd, m_E, m_upd, m_isz0, m_isz1, Option.bind_some]
    rw [if_neg (by omega), if_pos (by by_cases g : n < 36; exact absurd rfl (h n g); omega)]
theorem isLength_c (h1 : 1 ≤ k) (h2 : k ≤ 9) : fX3_isLength (nI k) = some (nI 1) := by
  simp (disch := omega) only [fX3_isLength, Nat.add_zero, upN_ne, upN_same, m_lit, m_neg1, m_add, m_mul, m_sub, m_div, m_le, m_lt, m_eq, m_cl, m_gd, m_E, m_upd, m_isz0, m_isz1, Option.bind_some]
  rw [if_neg (by omega), if_neg (by omega)]
theorem isLength_cf {y : Int32} (h : ∀ n, 1 ≤ n → n ≤ 9 → y ≠ nI n) : fX3_isLength y = some (nI 0) := by
  rcases nI_cases y with ⟨hy, -⟩ | ⟨n, hn, rfl⟩
  · unfold fX3_isLength
    rw [if_pos (Int32.lt_trans hy (by decide))]; rfl
  · simp (disch := omega) only [fX3_isLength, Nat.add_zero, upN_ne, upN_same, m_lit, m_neg1, m_add, m_mul, m_sub, m_div, m_le, m_lt, m_eq, m_cl, m_gd, m_E, m_upd, m_isz0, m_isz1, Option.bind_some]
    by_cases g : n < 1
    · rw [if_pos g]
    · rw [if_neg g, if_pos (by by_cases g2 : n ≤ 9; exact absurd rfl (h n (by omega) g2); omega)]
theorem isRule_c (h2 : k ≤ 2) : fX3_isRule (nI k) = some (nI 1) := by
  simp (disch := omega) only [fX3_isRule, Nat.add_zero, upN_ne, upN_same, m_lit, m_neg1, m_add, m_mul, m_sub, m_div, m_le, m_lt, m_eq, m_cl, m_gd, m_E, m_upd, m_isz0, m_isz1, Option.bind_some]
  rw [if_neg (by omega), if_neg (by omega)]
theorem isRule_cf {y : Int32} (h : ∀ n, n ≤ 2 → y ≠ nI n) : fX3_isRule y = some (nI 0) := by
  rcases nI_cases y with ⟨hy, -⟩ | ⟨n, hn, rfl⟩
  · unfold fX3_isRule
    rw [if_pos hy]; rfl
  · simp (disch := omega) only [fX3_isRule, Nat.add_zero, upN_ne, upN_same, m_lit, m_neg1, m_add, m_mul, m_sub, m_div, m_le, m_lt, m_eq, m_cl, m_gd, m_E, m_upd, m_isz0, m_isz1, Option.bind_some]
    rw [if_neg (by omega), if_pos (by by_cases g : n ≤ 2; exact absurd rfl (h n g); omega)]
theorem isTicks_c (h1 : 1 ≤ k) (h2 : k ≤ 60) : fX3_isTicks (nI k) = some (nI 1) := by
  simp (disch := omega) only [fX3_isTicks, Nat.add_zero, upN_ne, upN_same, m_lit, m_neg1, m_add, m_mul, m_sub, m_div, m_le, m_lt, m_eq, m_cl, m_gd, m_E, m_upd, m_isz0, m_isz1, Option.bind_some]
  rw [if_neg (by omega), if_neg (by omega)]
theorem isTicks_cf {y : Int32} (h : ∀ n, 1 ≤ n → n ≤ 60 → y ≠ nI n) : fX3_isTicks y = some (nI 0) := by
  rcases nI_cases y with ⟨hy, -⟩ | ⟨n, hn, rfl⟩
  · unfold fX3_isTicks
    rw [if_pos (Int32.lt_trans hy (by decide))]; rfl
  · simp (disch := omega) only [fX3_isTicks, Nat.add_zero, upN_ne, upN_same, m_lit, m_neg1, m_add, m_mul, m_sub, m_div, m_le, m_lt, m_eq, m_cl, m_gd, m_E, m_upd, m_isz0, m_isz1, Option.bind_some]
    by_cases g : n < 1
    · rw [if_pos g]
    · rw [if_neg g, if_pos (by by_cases g2 : n ≤ 60; exact absurd rfl (h n (by omega) g2); omega)]
theorem takerOf_c (h : Rep d κ σ) (hk : k < 36) : fX0_takerOf (E κ) (nI k) = some (nI (tk σ k)) := by
  simp (disch := omega) only [fX0_takerOf, isRoom_c, Nat.add_zero, upN_ne, upN_same, m_lit, m_neg1, m_add, m_mul, m_sub, m_div, m_le, m_lt, m_eq, m_cl, m_gd, m_E, m_upd, m_isz0, m_isz1, Option.bind_some]
  rw [if_neg (by omega), h.2.2.2.2.2.1 k hk]
theorem takerOf_no : fX0_takerOf (E κ) (nI 4294967295) = some (nI 4294967295) := by
  unfold fX0_takerOf
  rw [isRoom_cf (fun n hn e => by have := (m_eq (by omega) (by omega)).mp e; omega), Option.bind_some, if_pos (by decide)]
  rfl
theorem isFree_c (h : Rep d κ σ) (hW : WF σ) (hk : k < 36) : fX0_isFree (E κ) (nI k) = some (nI (bN (fr σ k))) := by
  have h1 := hW.2.2.1 k hk
  have h2 := tk_lt (k := k) hW
  have e1 := h.2.2.2.2.1 k hk
  have e2 := h.2.2.2.2.2.1 k hk
  simp (disch := omega) only [fX0_isFree, Nat.add_zero, upN_ne, upN_same, m_lit, m_neg1, m_add, m_mul, m_sub, m_div, m_le, m_lt, m_eq, m_cl, m_gd, m_E, m_upd, m_isz0, m_isz1, Option.bind_some]
  rw [if_neg (by omega), if_neg (by omega), e1, e2]
  unfold fr
  by_cases g : σ (4 + k) = 0
  · rw [if_pos g]
    by_cases g2 : tk σ k = 4294967295
    · rw [if_pos g2]; simp [g, g2, bN]
    · rw [if_neg g2]; simp [g, g2, bN]
  · rw [if_neg g]; simp [g, bN]
theorem isFree_no : fX0_isFree (E κ) (nI 4294967295) = some (nI 0) := by
  unfold fX0_isFree
  rw [if_pos (by decide)]; rfl
theorem setTaker_c (hk : k < 36) : fX0_setTaker (E κ) (nI k) (nI v) = some (E (upN κ (40 + k) v)) := by
  simp (disch := omega) only [fX0_setTaker, Nat.add_zero, upN_ne, upN_same, m_lit, m_neg1, m_add, m_mul, m_sub, m_div, m_le, m_lt, m_eq, m_cl, m_gd, m_E, m_upd, m_isz0, m_isz1, Option.bind_some]
  rw [if_neg (by omega), if_neg (by omega)]
theorem isTaken_c (h : Rep d κ σ) (hW : WF σ) (hk : k < 36) : fX0_isTaken (E κ) (nI k) = some (nI (bN (tk σ k != 4294967295))) := by
  have h2 := tk_lt (k := k) hW
  simp (disch := omega) only [fX0_isTaken, takerOf_c h hk, Nat.add_zero, upN_ne, upN_same, m_lit, m_neg1, m_add, m_mul, m_sub, m_div, m_le, m_lt, m_eq, m_cl, m_gd, m_E, m_upd, m_isz0, m_isz1, Option.bind_some]
  by_cases g : tk σ k = 4294967295
  · rw [if_pos g]; simp [g, bN]
  · rw [if_neg g]; simp [g, bN]
theorem isShut_c (h : Rep d κ σ) (hW : WF σ) (hk : k < 36) : fX0_isShut (E κ) (nI k) = some (nI (σ (4 + k))) := by
  have h1 := hW.2.2.1 k hk
  have e1 := h.2.2.2.2.1 k hk
  simp (disch := omega) only [fX0_isShut, isRoom_c, Nat.add_zero, upN_ne, upN_same, m_lit, m_neg1, m_add, m_mul, m_sub, m_div, m_le, m_lt, m_eq, m_cl, m_gd, m_E, m_upd, m_isz0, m_isz1, Option.bind_some]
  rw [if_neg (by omega), e1]
  by_cases g : σ (4 + k) = 0
  · rw [if_pos g, g]
  · rw [if_neg g, show σ (4 + k) = 1 by omega]
theorem isWhere_c (h : Rep d κ σ) (hW : WF σ) (hi : i < 10) (hw : w < 10) : fX0_isWhere (E κ) (nI i) (nI w) = some (nI (bN (decide (i < σ 0) && σ (40 + 18 * i) == w))) := by
  simp (disch := omega) only [fX0_isWhere, number_c, Nat.add_zero, upN_ne, upN_same, m_lit, m_neg1, m_add, m_mul, m_sub, m_div, m_le, m_lt, m_eq, m_cl, m_gd, m_E, m_upd, m_isz0, m_isz1, Option.bind_some]
  by_cases g : i < σ 0
  · have c1 := (hW.2.2.2.1 i g).1
    rw [h.w0 g]
    simp (disch := omega) only [Nat.add_zero, upN_ne, upN_same, m_lit, m_neg1, m_add, m_mul, m_sub, m_div, m_le, m_lt, m_eq, m_cl, m_gd, m_E, m_upd, m_isz0, m_isz1, Option.bind_some]
    by_cases g2 : σ (40 + 18 * i) = w
    · rw [if_pos g2]; simp [g, g2, bN]
    · rw [if_neg g2]; simp [g2, bN]
  · rw [h.2.2.2.2.2.2.2.2 i (by omega) hi]
    simp (disch := omega) only [Nat.add_zero, upN_ne, upN_same, m_lit, m_neg1, m_add, m_mul, m_sub, m_div, m_le, m_lt, m_eq, m_cl, m_gd, m_E, m_upd, m_isz0, m_isz1, Option.bind_some]
    rw [if_neg (by omega)]; simp [g, bN]
def uw (σ : Nat → Nat) (i : Nat) : Bool := decide (i < σ 0) && decide (σ (40 + 18 * i) < 2)
theorem isUnderWay_c (h : Rep d κ σ) (hW : WF σ) (hi : i < 10) : fX0_isUnderWay (E κ) (nI i) = some (nI (bN (uw σ i))) := by
  simp (disch := omega) only [fX0_isUnderWay, fX0_isUnderWay_18, isWhere_c h hW, m_bN, Nat.add_zero, upN_ne, upN_same, m_lit, m_neg1, m_add, m_mul, m_sub, m_div, m_le, m_lt, m_eq, m_cl, m_gd, m_E, m_upd, m_isz0, m_isz1, Option.bind_some]
  unfold uw
  by_cases g : i < σ 0
  · rw [decide_eq_true g]
    by_cases g0 : σ (40 + 18 * i) = 0
    · rw [if_neg (by simp [g0]), decide_eq_true (by omega)]; rfl
    · rw [if_pos (by simp [g0])]
      by_cases g1 : σ (40 + 18 * i) = 1
      · rw [if_neg (by simp [g1]), decide_eq_true (by omega)]; rfl
      · rw [if_pos (by simp [g1]), decide_eq_false (by omega)]; rfl
  · rw [decide_eq_false g, if_pos (by rfl), if_pos (by rfl)]; rfl
theorem countW4 (h : Rep d κ σ) (hW : WF σ) (hw : w < 10) : ∀ n i a, i ≤ 10 → 10 - i < n → fX0_countWhere_4 (E κ) (nI w) n (nI a) (nI i) = some (nI (a + cnt σ w (σ 0 - i) i)) := by
  have h0 := hW.1
  intro n
  induction n with
  | zero => intro i a _ h; omega
  | succ n ih =>
    intro i a hi hn
    rw [fX0_countWhere_4]
    by_cases h1 : 10 ≤ i
    · simp (disch := omega) only [Nat.add_zero, upN_ne, upN_same, m_lit, m_neg1, m_add, m_mul, m_sub, m_div, m_le, m_lt, m_eq, m_cl, m_gd, m_E, m_upd, m_isz0, m_isz1, Option.bind_some]
      rw [if_pos h1, show σ 0 - i = 0 by omega]
      rfl
    · simp (disch := omega) only [isWhere_c h hW, fX0_countWhere_22, m_bN, Nat.add_zero, upN_ne, upN_same, m_lit, m_neg1, m_add, m_mul, m_sub, m_div, m_le, m_lt, m_eq, m_cl, m_gd, m_E, m_upd, m_isz0, m_isz1, Option.bind_some]
      rw [if_neg h1, ih (i + 1) _ (by omega) (by omega), ih (i + 1) _ (by omega) (by omega)]
      by_cases g : i < σ 0
      · rw [decide_eq_true g, show σ 0 - i = (σ 0 - (i + 1)) + 1 by omega, cnt]
        by_cases g2 : σ (40 + 18 * i) = w
        · rw [beq_iff_eq.mpr g2, if_neg (by decide)]
          congr 2
          show a + 1 + _ = a + (1 + _)
          omega
        · rw [beq_eq_false_iff_ne.mpr g2, if_pos (by decide)]
          congr 2
          show a + _ = a + (0 + _)
          omega
      · rw [decide_eq_false g, if_pos (by rfl), show σ 0 - i = 0 by omega, show σ 0 - (i + 1) = 0 by omega]
        rfl
theorem countWhere_c (h : Rep d κ σ) (hW : WF σ) (hw : w < 10) : fX0_countWhere (E κ) (nI w) = some (nI (cntN σ w)) := by
  have := countW4 h hW hw 5000 0 0 (by omega) (by omega)
  rw [Nat.zero_add] at this
  exact this
theorem cntN_le (hW : WF σ) : cntN σ w ≤ 10 := by
  have := cnt_le σ w (σ 0) 0
  have := hW.1
  unfold cntN
  omega
theorem isThrough_c (h : Rep d κ σ) (hW : WF σ) : fX0_isThrough (E κ) = some (nI (bN (thr σ))) := by
  have a0 := cntN_le (w := 0) hW
  have a1 := cntN_le (w := 1) hW
  simp (disch := omega) only [fX0_isThrough, countWhere_c h hW, Nat.add_zero, upN_ne, upN_same, m_lit, m_neg1, m_add, m_mul, m_sub, m_div, m_le, m_lt, m_eq, m_cl, m_gd, m_E, m_upd, m_isz0, m_isz1, Option.bind_some]
  unfold thr
  by_cases g : cntN σ 0 = 0
  · rw [if_pos g]
    by_cases g1 : cntN σ 1 = 0
    · rw [if_pos g1]; simp [g, g1, bN]
    · rw [if_neg g1]; simp [g1, bN]
  · rw [if_neg g]; simp [g, bN]
theorem step_R : ∀ a, a < 36 → ∀ b, b < 36 → fX0_stepAlongRow (nI a) (nI b) = some (nI (alR a b)) := by decide +kernel
theorem step_C : ∀ a, a < 36 → ∀ b, b < 36 → fX0_stepAlongColumn (nI a) (nI b) = some (nI (alC a b)) := by decide +kernel
theorem next105 {r c : Nat} (hr : r < 36 ∨ r = 4294967295) (hc : c < 36 ∨ c = 4294967295) (b : Bool) : fX0_nextRoomOf_105 (nI r) (nI c) (nI (bN b)) = some (nI (if b = true ∧ c ≠ 4294967295 then c else if r = 4294967295 then c else r)) := by
  simp (disch := omega) only [fX0_nextRoomOf_105, m_bN, Nat.add_zero, upN_ne, upN_same, m_lit, m_neg1, m_add, m_mul, m_sub, m_div, m_le, m_lt, m_eq, m_cl, m_gd, m_E, m_upd, m_isz0, m_isz1, Option.bind_some]
  cases b <;> by_cases h1 : c = 4294967295 <;> by_cases h2 : r = 4294967295 <;> simp [h1, h2]
theorem nextRoomOf_c (h : Rep d κ σ) (hW : WF σ) (hi : i < σ 0) : fX0_nextRoomOf (E κ) (nI i) = some (nI (wants σ i)) := by
  have h0 := hW.1
  have h2 := hW.2.1
  obtain ⟨c1, c2, c3, c4, c5, c6, c7, c8, c9, -⟩ := hW.2.2.2.1 i hi
  have e0 := h.w0 hi
  have e6 := h.nm (w := 6) hi (by omega)
  have e7 := h.nm (w := 7) hi (by omega)
  have eR : κ 1 = σ 2 := h.2.1
  simp (disch := omega) only [fX0_nextRoomOf, number_c, e0, e6, e7, eR, Nat.add_zero, upN_ne, upN_same, m_lit, m_neg1, m_add, m_mul, m_sub, m_div, m_le, m_lt, m_eq, m_cl, m_gd, m_E, m_upd, m_isz0, m_isz1, Option.bind_some]
  unfold wants
  by_cases g0 : σ (40 + 18 * i) = 0
  · rw [if_pos g0, if_pos g0]
  · rw [if_neg g0, if_neg g0]
    by_cases g1 : σ (40 + 18 * i) = 1
    · have e9 : κ (76 + i * 18 + 9) = σ (40 + 18 * i + 9) := h.r hi (p := 0) (by have := c8 g1; omega)
      have hh : σ (40 + 18 * i + 9) < 36 := c7 0 (by have := c8 g1; omega)
      have hr := alR_in _ hh _ c5
      have hc := alC_in _ hh _ c5
      rw [if_pos g1, e9]
      simp (disch := omega) only [step_R, step_C, Nat.add_zero, upN_ne, upN_same, m_lit, m_neg1, m_add, m_mul, m_sub, m_div, m_le, m_lt, m_eq, m_cl, m_gd, m_E, m_upd, m_isz0, m_isz1, Option.bind_some]
      have key : ∀ b, nrB σ (alR (σ (40 + 18 * i + 9)) (σ (40 + 18 * i + 7))) (alC (σ (40 + 18 * i + 9)) (σ (40 + 18 * i + 7))) = b → fX0_nextRoomOf_105 (nI (alR (σ (40 + 18 * i + 9)) (σ (40 + 18 * i + 7)))) (nI (alC (σ (40 + 18 * i + 9)) (σ (40 + 18 * i + 7)))) (nI (bN b)) = some (nI (if σ (40 + 18 * i) = 1 ∧ eats σ i = false then nr σ i else 4294967295)) := by
        intro b hb
        rw [next105 hr hc b]
        by_cases ge : eats σ i = false
        · rw [if_pos (show σ (40 + 18 * i) = 1 ∧ eats σ i = false from ⟨g1, ge⟩), ← hb]; rfl
        · rw [if_neg (show ¬ (σ (40 + 18 * i) = 1 ∧ eats σ i = false) from fun z => ge z.2)]
          have e : σ (40 + 18 * i + 9) = σ (40 + 18 * i + 7) := by
            by_cases q : σ (40 + 18 * i + 9) = σ (40 + 18 * i + 7)
            · exact q
            · exact absurd (by simp [eats, g1, q]) ge
          have an := al_eq _ c5
          rw [e, an.1, an.2]
          simp
      generalize alR (σ (40 + 18 * i + 9)) (σ (40 + 18 * i + 7)) = r at hr key ⊢
      generalize alC (σ (40 + 18 * i + 9)) (σ (40 + 18 * i + 7)) = c at hc key ⊢
      have e1 : fX0_nextRoomOf_100 (nI r) (nI c) = fX0_nextRoomOf_105 (nI r) (nI c) (nI (bN true)) := rfl
      have e0 : fX0_nextRoomOf_104 (nI r) (nI c) = fX0_nextRoomOf_105 (nI r) (nI c) (nI (bN false)) := rfl
      rw [e1, e0]
      have fR : fX0_isFree (E κ) (nI r) = some (nI (bN (r != 4294967295 && fr σ r))) := by
        rcases hr with hr | hr
        · rw [isFree_c h hW hr, show (r != 4294967295) = true from by simp; omega]; rfl
        · rw [hr, isFree_no]; rfl
      have fC : fX0_isFree (E κ) (nI c) = some (nI (bN (c != 4294967295 && fr σ c))) := by
        rcases hc with hc | hc
        · rw [isFree_c h hW hc, show (c != 4294967295) = true from by simp; omega]; rfl
        · rw [hc, isFree_no]; rfl
      rw [fR, fC]
      simp (disch := omega) only [m_bN, Nat.add_zero, upN_ne, upN_same, m_lit, m_neg1, m_add, m_mul, m_sub, m_div, m_le, m_lt, m_eq, m_cl, m_gd, m_E, m_upd, m_isz0, m_isz1, Option.bind_some]
      by_cases q1 : σ 2 = 1
      · rw [if_pos q1]; exact key true (by simp [nrB, q1])
      · rw [if_neg q1]
        by_cases q2 : σ 2 = 2
        · rw [if_pos q2]
          cases q3 : (r != 4294967295 && fr σ r)
          · rw [if_pos (rfl : false = false)]
            cases q4 : (c != 4294967295 && fr σ c)
            · rw [if_pos (rfl : false = false)]; exact key false (by unfold nrB; rw [q3, q4]; simp [q1])
            · rw [if_neg (show ¬ (true = false) from by decide)]; exact key true (by unfold nrB; rw [q3, q4]; simp [q2])
          · rw [if_neg (show ¬ (true = false) from by decide)]; exact key false (by unfold nrB; rw [q3]; simp [q1])
        · rw [if_neg q2]; exact key false (by simp [nrB, q1, q2])
    · rw [if_neg g1, if_neg (fun z => g1 z.1)]
theorem nextRoomOf_o (h : Rep d κ σ) (hi : σ 0 ≤ i) (h10 : i < 10) : fX0_nextRoomOf (E κ) (nI i) = some (nI 4294967295) := by
  have e := h.2.2.2.2.2.2.2.2 i hi h10
  unfold fX0_nextRoomOf
  rw [show (0 : Int32) = nI 0 from rfl, number_c h10 (by omega), Option.bind_some, Nat.add_zero, e, if_neg (by decide), if_neg (by decide)]
  rfl
theorem blockerOf_c (h : Rep d κ σ) (hW : WF σ) (hi : i < σ 0) : fX0_blockerOf (E κ) (nI i) = some (nI (blk σ i)) := by
  have hw := wants_in hW hi
  unfold fX0_blockerOf blk
  rw [nextRoomOf_c h hW hi, Option.bind_some]
  rcases hw with g | g
  · rw [if_neg (by omega), takerOf_c h g]; rfl
  · rw [if_pos g, g, takerOf_no]; rfl
theorem blockerOf_o (h : Rep d κ σ) (hi : σ 0 ≤ i) (h10 : i < 10) : fX0_blockerOf (E κ) (nI i) = some (nI 4294967295) := by
  unfold fX0_blockerOf
  rw [nextRoomOf_o h hi h10, Option.bind_some, takerOf_no]; rfl
end HO
