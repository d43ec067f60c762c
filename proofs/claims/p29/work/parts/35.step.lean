section STP
variable {σ τ : Nat → Nat} {i k w v : Nat}
-- the step of one that goes
theorem out_2 {τ : Nat → Nat} : outN τ i (40 + 18 * i + 2) = τ (40 + 18 * i + 2) - 1 := by
  unfold outN
  by_cases h : τ (40 + 18 * i + 2) ≤ 0
  · rw [if_pos h]; omega
  · rw [if_neg h]; simp (disch := omega) only [Nat.add_zero, upN_ne, upN_same, m_lit, m_neg1, m_add, m_mul, m_sub, m_div, m_le, m_lt, m_eq, m_cl, m_gd, m_E, m_upd, m_isz0, m_isz1, Option.bind_some]
theorem out_1 {τ : Nat → Nat} : outN τ i (40 + 18 * i + 1) = if τ (40 + 18 * i + 2) = 0 then τ (40 + 18 * i + 1) else τ (40 + 18 * i + 1) + 1 := by
  unfold outN
  by_cases h : τ (40 + 18 * i + 2) ≤ 0
  · rw [if_pos h, if_pos (by omega)]
  · rw [if_neg h, if_neg (by omega)]; simp (disch := omega) only [Nat.add_zero, upN_ne, upN_same, m_lit, m_neg1, m_add, m_mul, m_sub, m_div, m_le, m_lt, m_eq, m_cl, m_gd, m_E, m_upd, m_isz0, m_isz1, Option.bind_some]
theorem out_o {τ : Nat → Nat} {x : Nat} (h1 : x ≠ 40 + 18 * i + 1) (h2 : x ≠ 40 + 18 * i + 2) : outN τ i x = τ x := by
  unfold outN
  by_cases h : τ (40 + 18 * i + 2) ≤ 0
  · rw [if_pos h]
  · rw [if_neg h]; simp (disch := omega) only [Nat.add_zero, upN_ne, upN_same, m_lit, m_neg1, m_add, m_mul, m_sub, m_div, m_le, m_lt, m_eq, m_cl, m_gd, m_E, m_upd, m_isz0, m_isz1, Option.bind_some]
theorem go_0 : goN σ i k (40 + 18 * i) = 1 := by
  unfold goN
  simp (disch := omega) only [Nat.add_zero, upN_ne, upN_same, m_lit, m_neg1, m_add, m_mul, m_sub, m_div, m_le, m_lt, m_eq, m_cl, m_gd, m_E, m_upd, m_isz0, m_isz1, Option.bind_some]
theorem go_o {x : Nat} (h : x < 40 + 18 * i ∨ 40 + 18 * i + 18 ≤ x ∨ (40 + 18 * i + 2 < x ∧ x < 40 + 18 * i + 9)) : goN σ i k x = σ x := by
  unfold goN
  rw [upN_ne (by omega), out_o (by omega) (by omega)]
  have hm : (if 9 ≤ σ (40 + 18 * i + 1) then 8 else σ (40 + 18 * i + 1)) ≤ 8 := by split <;> omega
  generalize (if 9 ≤ σ (40 + 18 * i + 1) then 8 else σ (40 + 18 * i + 1)) = m at hm ⊢
  unfold shf
  rw [if_neg (by omega), if_neg (by omega)]
theorem go_2 : goN σ i k (40 + 18 * i + 2) = σ (40 + 18 * i + 2) - 1 := by
  unfold goN
  rw [upN_ne (by omega), out_2, shf_low (by omega)]
theorem go_1 : goN σ i k (40 + 18 * i + 1) = if σ (40 + 18 * i + 2) = 0 then σ (40 + 18 * i + 1) else σ (40 + 18 * i + 1) + 1 := by
  unfold goN
  rw [upN_ne (by omega), out_1, shf_low (by omega), shf_low (by omega)]
theorem go_h : goN σ i k (40 + 18 * i + 9) = k := by
  unfold goN
  rw [upN_ne (by omega), out_o (by omega) (by omega), shf_head]
theorem go_r {p : Nat} (h1 : p + 1 ≤ σ (40 + 18 * i + 1)) (h2 : p + 1 ≤ 8) : goN σ i k (40 + 18 * i + (9 + (p + 1))) = σ (40 + 18 * i + (9 + p)) := by
  unfold goN
  rw [upN_ne (by omega), out_o (by omega) (by omega), shf_mid (by split <;> omega)]
theorem go_WF (h : WF σ) (hi : i < σ 0) (hk : k < 36) (hn : tk σ k = 4294967295) (h1 : σ (40 + 18 * i) ≤ 1) : WF (goN σ i k) := by
  have h10 := h.1
  obtain ⟨c1, c2, c3, c4, c5, c6, c7, c8, c9, c10, c11⟩ := h.2.2.2.1 i hi
  have hno : ∀ j, j < σ 0 → occ σ j k = false := by
    rcases tk_cases σ k with ⟨_, b⟩ | ⟨a, _⟩
    · exact b
    · omega
  have hne : ∀ j q, j < σ 0 → q < σ (40 + 18 * j + 1) → σ (40 + 18 * j + (9 + q)) ≠ k := by
    intro j q hj hq e
    have := occ_iff.mpr ⟨q, hq, e⟩
    rw [hno j hj] at this
    cases this
  have hl : goN σ i k (40 + 18 * i + 1) ≤ σ (40 + 18 * i + 1) + 1 := by rw [go_1]; split <;> omega
  have hrow : ∀ p, p < goN σ i k (40 + 18 * i + 1) → (p = 0 ∧ goN σ i k (40 + 18 * i + (9 + p)) = k) ∨ ∃ q, p = q + 1 ∧ q < σ (40 + 18 * i + 1) ∧ goN σ i k (40 + 18 * i + (9 + p)) = σ (40 + 18 * i + (9 + q)) := by
    intro p hp
    cases p with
    | zero => exact Or.inl ⟨rfl, go_h⟩
    | succ q =>
      rw [go_1] at hp
      refine Or.inr ⟨q, rfl, by split at hp <;> omega, go_r (by split at hp <;> omega) (by split at hp <;> omega)⟩
  refine WF_step (i := i) h (go_o (by omega)) (go_o (by omega)) (fun x hx => go_o (by omega)) (fun j w hj hw => go_o (by omega)) ?_ ?_ ?_
  · unfold CW
    rw [go_0, go_o (x := 40 + 18 * i + 8) (by omega), go_o (x := 40 + 18 * i + 6) (by omega), go_o (x := 40 + 18 * i + 7) (by omega), go_2, go_o (x := 40 + 18 * i + 3) (by omega)]
    refine ⟨by omega, c2, c3, c4, c5, ?_, fun p hp => ?_, fun _ => ?_, fun z => absurd rfl z, fun z => by omega, fun z => by omega⟩
    · rw [go_1]; split <;> omega
    · rcases hrow p hp with ⟨_, e⟩ | ⟨q, _, hq, e⟩
      · rw [e]; exact hk
      · rw [e]; exact c7 q hq
    · rw [go_1]
      split
      · have : σ (40 + 18 * i) = 1 := by
          by_cases g : σ (40 + 18 * i) = 0
          · have := c11 g; omega
          · omega
        exact c8 this
      · omega
  · intro p hp j q hj hj2 hq e
    rcases hrow p hp with ⟨_, e1⟩ | ⟨r, _, hr, e1⟩
    · rw [e1] at e; exact hne j q hj2 hq e.symm
    · rw [e1] at e; exact hj (h.2.2.2.2 _ _ _ _ hi hj2 hr hq e).1.symm
  · intro p q hp hq e
    rcases hrow p hp with ⟨p0, e1⟩ | ⟨r, pr, hr, e1⟩ <;> rcases hrow q hq with ⟨q0, e2⟩ | ⟨r2, qr, hr2, e2⟩
    · omega
    · rw [e1, e2] at e; exact absurd e.symm (hne i r2 hi hr2)
    · rw [e1, e2] at e; exact absurd e (hne i r hi hr)
    · rw [e1, e2] at e
      have := (h.2.2.2.2 _ _ _ _ hi hi hr hr2 e).2
      omega
-- the step of one that eats
theorem eat2_o {x : Nat} (h1 : x ≠ 40 + 18 * i + 1) (h2 : x ≠ 40 + 18 * i + 2) (h3 : x ≠ 40 + 18 * i + 3) : eat2 σ i x = σ x := by
  unfold eat2
  split <;> simp (disch := omega) only [Nat.add_zero, upN_ne, upN_same, m_lit, m_neg1, m_add, m_mul, m_sub, m_div, m_le, m_lt, m_eq, m_cl, m_gd, m_E, m_upd, m_isz0, m_isz1, Option.bind_some]
theorem eat2_1 : eat2 σ i (40 + 18 * i + 1) = if σ (40 + 18 * i + 2) = 0 then σ (40 + 18 * i + 1) - 1 else σ (40 + 18 * i + 1) := by
  unfold eat2
  by_cases h : σ (40 + 18 * i + 2) ≤ 0
  · rw [if_pos h, if_pos (by omega)]; simp (disch := omega) only [Nat.add_zero, upN_ne, upN_same, m_lit, m_neg1, m_add, m_mul, m_sub, m_div, m_le, m_lt, m_eq, m_cl, m_gd, m_E, m_upd, m_isz0, m_isz1, Option.bind_some]
  · rw [if_neg h, if_neg (by omega)]; simp (disch := omega) only [Nat.add_zero, upN_ne, upN_same, m_lit, m_neg1, m_add, m_mul, m_sub, m_div, m_le, m_lt, m_eq, m_cl, m_gd, m_E, m_upd, m_isz0, m_isz1, Option.bind_some]
theorem eat2_2 : eat2 σ i (40 + 18 * i + 2) = σ (40 + 18 * i + 2) - 1 := by
  unfold eat2
  by_cases h : σ (40 + 18 * i + 2) ≤ 0
  · rw [if_pos h]; simp (disch := omega) only [Nat.add_zero, upN_ne, upN_same, m_lit, m_neg1, m_add, m_mul, m_sub, m_div, m_le, m_lt, m_eq, m_cl, m_gd, m_E, m_upd, m_isz0, m_isz1, Option.bind_some]; omega
  · rw [if_neg h]; simp (disch := omega) only [Nat.add_zero, upN_ne, upN_same, m_lit, m_neg1, m_add, m_mul, m_sub, m_div, m_le, m_lt, m_eq, m_cl, m_gd, m_E, m_upd, m_isz0, m_isz1, Option.bind_some]
theorem eat2_3 : eat2 σ i (40 + 18 * i + 3) = σ (40 + 18 * i + 3) + 1 := by
  unfold eat2
  split <;> simp (disch := omega) only [Nat.add_zero, upN_ne, upN_same, m_lit, m_neg1, m_add, m_mul, m_sub, m_div, m_le, m_lt, m_eq, m_cl, m_gd, m_E, m_upd, m_isz0, m_isz1, Option.bind_some]
theorem eat_x {x : Nat} (h0 : x ≠ 40 + 18 * i) (h5 : x ≠ 40 + 18 * i + 5) : eatN σ i x = eat2 σ i x := by
  unfold eatN
  split <;> simp (disch := omega) only [Nat.add_zero, upN_ne, upN_same, m_lit, m_neg1, m_add, m_mul, m_sub, m_div, m_le, m_lt, m_eq, m_cl, m_gd, m_E, m_upd, m_isz0, m_isz1, Option.bind_some]
theorem eat_0 : eatN σ i (40 + 18 * i) = if eat2 σ i (40 + 18 * i + 1) = 0 then 2 else σ (40 + 18 * i) := by
  unfold eatN
  by_cases h : eat2 σ i (40 + 18 * i + 1) = 0
  · rw [if_pos h, if_pos h]; simp (disch := omega) only [Nat.add_zero, upN_ne, upN_same, m_lit, m_neg1, m_add, m_mul, m_sub, m_div, m_le, m_lt, m_eq, m_cl, m_gd, m_E, m_upd, m_isz0, m_isz1, Option.bind_some]
  · rw [if_neg h, if_neg h]; exact eat2_o (by omega) (by omega) (by omega)
theorem eat_5 : eatN σ i (40 + 18 * i + 5) = if eat2 σ i (40 + 18 * i + 1) = 0 then σ 1 + 1 else σ (40 + 18 * i + 5) := by
  unfold eatN
  by_cases h : eat2 σ i (40 + 18 * i + 1) = 0
  · rw [if_pos h, if_pos h]; simp (disch := omega) only [Nat.add_zero, upN_ne, upN_same, m_lit, m_neg1, m_add, m_mul, m_sub, m_div, m_le, m_lt, m_eq, m_cl, m_gd, m_E, m_upd, m_isz0, m_isz1, Option.bind_some]
  · rw [if_neg h, if_neg h]; exact eat2_o (by omega) (by omega) (by omega)
theorem eat_o {x : Nat} (h : x < 40 + 18 * i ∨ 40 + 18 * i + 5 < x) : eatN σ i x = σ x := by
  rw [eat_x (by omega) (by omega), eat2_o (by omega) (by omega) (by omega)]
theorem eat_WF (h : WF σ) (hi : i < σ 0) (h1 : σ (40 + 18 * i) = 1) : WF (eatN σ i) := by
  have h10 := h.1
  obtain ⟨c1, c2, c3, c4, c5, c6, c7, c8, c9, c10, c11⟩ := h.2.2.2.1 i hi
  have g8 := c8 h1
  have e1 : eatN σ i (40 + 18 * i + 1) = if σ (40 + 18 * i + 2) = 0 then σ (40 + 18 * i + 1) - 1 else σ (40 + 18 * i + 1) := by rw [eat_x (by omega) (by omega), eat2_1]
  have hl : eatN σ i (40 + 18 * i + 1) ≤ σ (40 + 18 * i + 1) := by rw [e1]; split <;> omega
  refine WF_step (i := i) h (eat_o (by omega)) (eat_o (by omega)) (fun x hx => eat_o (by omega)) (fun j w hj hw => eat_o (by omega)) ?_ ?_ ?_
  · unfold CW
    rw [eat_0, eat_x (x := 40 + 18 * i + 2) (by omega) (by omega), eat_x (x := 40 + 18 * i + 3) (by omega) (by omega), eat2_2, eat2_3, eat_o (x := 40 + 18 * i + 6) (by omega), eat_o (x := 40 + 18 * i + 7) (by omega), eat_o (x := 40 + 18 * i + 8) (by omega), eat2_1, e1]
    refine ⟨by (repeat' split) <;> omega, c2, c3, c4, c5, ?_, fun p hp => ?_, ?_, ?_, ?_, ?_⟩
    · split <;> omega
    · rw [eat_o (by omega)]
      exact c7 p (by split at hp <;> omega)
    · (repeat' split) <;> omega
    · (repeat' split) <;> omega
    · (repeat' split) <;> omega
    · (repeat' split) <;> omega
  · intro p hp j q hj hj2 hq e
    rw [eat_o (by omega)] at e
    exact hj (h.2.2.2.2 _ _ _ _ hi hj2 (by omega) hq e).1.symm
  · intro p q hp hq e
    rw [eat_o (by omega), eat_o (by omega)] at e
    exact (h.2.2.2.2 _ _ _ _ hi hi (by omega) (by omega) e).2
theorem eats_1 (h : eats σ i = true) : σ (40 + 18 * i) = 1 := by
  simp only [eats, Bool.and_eq_true, beq_iff_eq] at h
  exact h.1
theorem wants_1 (h : wants σ i ≠ 4294967295) : σ (40 + 18 * i) ≤ 1 := by
  unfold wants at h
  split at h
  · omega
  · split at h
    · omega
    · exact absurd rfl h
theorem fr_tk (h : fr σ k = true) : tk σ k = 4294967295 := by
  simp only [fr, Bool.and_eq_true, beq_iff_eq] at h
  exact h.2
theorem act_WF (h : WF σ) (hi : i < σ 0) : WF (act σ i) := by
  unfold act
  split
  · rename_i g
    exact eat_WF h hi (eats_1 g)
  · split
    · exact h
    · rename_i g
      have hw := wants_in h hi
      split
      · rename_i gf
        exact go_WF h hi (by omega) (fr_tk gf) (wants_1 g)
      · exact waitN_cor.wf h
theorem act_0 {x : Nat} (hx : x < 40) (h3 : x ≠ 3) : act σ i x = σ x := by
  unfold act
  split
  · exact eat_o (by omega)
  · split
    · rfl
    · split
      · exact go_o (by omega)
      · unfold waitN; rw [upN_ne h3, upN_ne (by omega)]
theorem act_j {j w : Nat} (hj : j ≠ i) (hw : w < 18) : act σ i (40 + 18 * j + w) = σ (40 + 18 * j + w) := by
  unfold act
  split
  · exact eat_o (by omega)
  · split
    · rfl
    · split
      · exact go_o (by omega)
      · unfold waitN; rw [upN_ne (by omega), upN_ne (by omega)]
/-- a tick: one after the other, then the counter -/
def actsN (σ : Nat → Nat) : Nat → Nat → (Nat → Nat)
  | 0, _ => σ
  | n + 1, i => actsN (act σ i) n (i + 1)
def tickN (σ : Nat → Nat) : Nat → Nat := upN (actsN σ (σ 0) 0) 1 (σ 1 + 1)
theorem actsN_lo {x : Nat} (hx : x < 40) (h3 : x ≠ 3) : ∀ n i (σ : Nat → Nat), actsN σ n i x = σ x := by
  intro n
  induction n with
  | zero => intro i σ; rfl
  | succ n ih => intro i σ; rw [actsN, ih, act_0 hx h3]
theorem actsN_WF : ∀ n i (σ : Nat → Nat), WF σ → i + n ≤ σ 0 → WF (actsN σ n i) := by
  intro n
  induction n with
  | zero => intro i σ h _; exact h
  | succ n ih => intro i σ h hi; rw [actsN]; exact ih _ _ (act_WF h (by omega)) (by rw [act_0 (by omega) (by omega)]; omega)
theorem up1_cor (v : Nat) : Cor σ (upN σ 1 v) := fun x h1 _ _ => upN_ne h1
theorem tick_WF (h : WF σ) : WF (tickN σ) := (up1_cor _).wf (actsN_WF _ _ _ h (by omega))
theorem tick_0 : tickN σ 0 = σ 0 := by unfold tickN; rw [upN_ne (by omega), actsN_lo (by omega) (by omega)]
theorem tick_1 : tickN σ 1 = σ 1 + 1 := by unfold tickN; rw [upN_same]
theorem tick_lo {x : Nat} (hx : x < 40) (h1 : x ≠ 1) (h3 : x ≠ 3) : tickN σ x = σ x := by unfold tickN; rw [upN_ne h1, actsN_lo hx h3]
/-- ticks -/
def ticksN (σ : Nat → Nat) : Nat → (Nat → Nat)
  | 0 => σ
  | n + 1 => ticksN (tickN σ) n
theorem ticks_WF : ∀ n (σ : Nat → Nat), WF σ → WF (ticksN σ n) := by
  intro n
  induction n with
  | zero => intro σ h; exact h
  | succ n ih => intro σ h; exact ih _ (tick_WF h)
theorem ticks_lo {x : Nat} (hx : x < 40) (h1 : x ≠ 1) (h3 : x ≠ 3) : ∀ n (σ : Nat → Nat), ticksN σ n x = σ x := by
  intro n
  induction n with
  | zero => intro σ; rfl
  | succ n ih => intro σ; rw [ticksN, ih, tick_lo hx h1 h3]
theorem ticks_1 : ∀ n (σ : Nat → Nat), ticksN σ n 1 = σ 1 + n := by
  intro n
  induction n with
  | zero => intro σ; rfl
  | succ n ih => intro σ; rw [ticksN, ih, tick_1]; omega
theorem ticks_snoc : ∀ n (σ : Nat → Nat), ticksN σ (n + 1) = tickN (ticksN σ n) := by
  intro n
  induction n with
  | zero => intro σ; rfl
  | succ n ih => intro σ; rw [ticksN, ih]; rfl
theorem ticks_add : ∀ m n (σ : Nat → Nat), ticksN σ (m + n) = ticksN (ticksN σ m) n := by
  intro m
  induction m with
  | zero => intro n σ; rw [Nat.zero_add]; rfl
  | succ m ih => intro n σ; rw [show m + 1 + n = (m + n) + 1 by omega, ticksN, ih]; rfl
/-- how many are where -/
def cnt (σ : Nat → Nat) (w : Nat) : Nat → Nat → Nat
  | 0, _ => 0
  | n + 1, i => bN (σ (40 + 18 * i) == w) + cnt σ w n (i + 1)
def cntN (σ : Nat → Nat) (w : Nat) : Nat := cnt σ w (σ 0) 0
theorem cnt_le (σ : Nat → Nat) (w : Nat) : ∀ n i, cnt σ w n i ≤ n := by
  intro n
  induction n with
  | zero => intro i; exact Nat.le_refl _
  | succ n ih => intro i; rw [cnt]; have := ih (i + 1); have := bN_lt (σ (40 + 18 * i) == w); omega
theorem count4 (h : WF σ) (hw : w < 2147483648) : ∀ n i a, i ≤ σ 0 → σ 0 - i < n → fX4_count_4 (E σ) (nI w) n (nI a) (nI i) = some (nI (a + cnt σ w (σ 0 - i) i)) := by
  have h0 := h.1
  intro n
  induction n with
  | zero => intro i a _ h; omega
  | succ n ih =>
    intro i a hi hn
    rw [fX4_count_4]
    by_cases h1 : σ 0 ≤ i
    · simp (disch := omega) only [Nat.add_zero, upN_ne, upN_same, m_lit, m_neg1, m_add, m_mul, m_sub, m_div, m_le, m_lt, m_eq, m_cl, m_gd, m_E, m_upd, m_isz0, m_isz1, Option.bind_some]
      rw [if_pos h1, show σ 0 - i = 0 by omega]
      rfl
    · have c1 := (h.2.2.2.1 i (by omega)).1
      simp (disch := omega) only [isIn_E, fX4_count_26, m_bN, Nat.add_zero, upN_ne, upN_same, m_lit, m_neg1, m_add, m_mul, m_sub, m_div, m_le, m_lt, m_eq, m_cl, m_gd, m_E, m_upd, m_isz0, m_isz1, Option.bind_some]
      rw [if_neg h1, show σ 0 - i = (σ 0 - (i + 1)) + 1 by omega, cnt]
      cases g : (σ (40 + 18 * i) == w)
      · rw [if_pos (rfl : false = false), ih (i + 1) _ (by omega) (by omega)]
        congr 2
        show a + _ = a + (0 + _)
        omega
      · rw [if_neg (by decide : ¬ true = false), ih (i + 1) _ (by omega) (by omega)]
        congr 2
        show a + 1 + _ = a + (1 + _)
        omega
theorem count_E (h : WF σ) (hw : w < 2147483648) : fX4_count (E σ) (nI w) = some (nI (cntN σ w)) := by
  have h0 := h.1
  have := count4 h hw 5000 0 0 (Nat.zero_le _) (by omega)
  rw [Nat.zero_add] at this
  exact this
theorem ticks16 (k8 : Int32 → Int32 → (Nat → Int32) → Option (Int32 × (Nat → Int32))) (v2 v3 : Int32) : ∀ n i (σ : Nat → Nat), WF σ → i ≤ σ 0 → σ 0 - i < n →
    fX4_ticksOn_16 k8 n v2 v3 (nI i) (E σ) = k8 v2 (v3 + 1) (E (upN (actsN σ (σ 0 - i) i) 1 (σ 1 + 1))) := by
  intro n
  induction n with
  | zero => intro i σ _ _ h; omega
  | succ n ih =>
    intro i σ h hi hn
    have h0 := h.1
    rw [fX4_ticksOn_16]
    by_cases h1 : σ 0 ≤ i
    · simp (disch := omega) only [Nat.add_zero, upN_ne, upN_same, m_lit, m_neg1, m_add, m_mul, m_sub, m_div, m_le, m_lt, m_eq, m_cl, m_gd, m_E, m_upd, m_isz0, m_isz1, Option.bind_some]
      rw [if_pos h1, show σ 0 - i = 0 by omega]
      rfl
    · simp (disch := omega) only [acts_E h (show i < σ 0 by omega), Nat.add_zero, upN_ne, upN_same, m_lit, m_neg1, m_add, m_mul, m_sub, m_div, m_le, m_lt, m_eq, m_cl, m_gd, m_E, m_upd, m_isz0, m_isz1, Option.bind_some]
      rw [if_neg h1, ih (i + 1) _ (act_WF h (by omega)) (by rw [act_0 (by omega) (by omega)]; omega) (by rw [act_0 (by omega) (by omega)]; omega), act_0 (by omega) (by omega), act_0 (by omega) (by omega), show σ 0 - i = (σ 0 - (i + 1)) + 1 by omega, actsN]
      rfl
theorem ticks8 (m a : Nat) (hm : m < 2147483648) : ∀ n j (σ : Nat → Nat), WF σ → j ≤ m → m - j < n → a ≤ cntN (ticksN σ (m - j)) 2 →
    fX4_ticksOn_8 (nI m) n (nI a) (nI j) (E σ) = some (nI (cntN (ticksN σ (m - j)) 2 - a), E (ticksN σ (m - j))) := by
  intro n
  induction n with
  | zero => intro j σ _ _ h; omega
  | succ n ih =>
    intro j σ h hj hn ha
    have h0 := h.1
    rw [fX4_ticksOn_8]
    by_cases h1 : m ≤ j
    · rw [show m - j = 0 by omega] at ha ⊢
      have ha : a ≤ cntN σ 2 := ha
      simp (disch := omega) only [count_E h, Nat.add_zero, upN_ne, upN_same, m_lit, m_neg1, m_add, m_mul, m_sub, m_div, m_le, m_lt, m_eq, m_cl, m_gd, m_E, m_upd, m_isz0, m_isz1, Option.bind_some]
      rw [if_pos h1]
      rfl
    · simp (disch := omega) only [Nat.add_zero, upN_ne, upN_same, m_lit, m_neg1, m_add, m_mul, m_sub, m_div, m_le, m_lt, m_eq, m_cl, m_gd, m_E, m_upd, m_isz0, m_isz1, Option.bind_some]
      rw [if_neg h1, ticks16 _ _ _ 5000 0 σ h (by omega) (by omega), Nat.sub_zero, ← nI_succ]
      rw [show m - j = (m - (j + 1)) + 1 by omega] at ha ⊢
      have := ih (j + 1) (tickN σ) (tick_WF h) (by omega) (by omega) ha
      exact this
end STP
