/-! COMMANDS: what they answer, and the joint state after them -/
section GTS
variable {σ τ κ : Nat → Nat} {d i k w v x m m2 a b : Nat}
theorem act_GT (hW : WF σ) (hi : i < σ 0) (h : GTd 1 σ) : GTd 1 (act σ i) := by
  have h0 := hW.1
  have e0 : act σ i 0 = σ 0 := act_0 (by omega) (by omega)
  have e1 : act σ i 1 = σ 1 := act_0 (by omega) (by omega)
  intro j hj g
  rw [e0] at hj
  rw [e1]
  by_cases z : j = i
  · subst z
    unfold act at g ⊢
    cases ge : eats σ j
    · rw [ge, if_neg (show ¬ (false = true) from by decide)] at g
      rw [if_neg (show ¬ (false = true) from by decide)]
      by_cases gw : wants σ j = 4294967295
      · rw [if_pos gw] at g ⊢
        exact h j hj g
      · have h1 := wants_1 gw
        rw [if_neg gw] at g ⊢
        cases gf : fr σ (wants σ j)
        · rw [gf, if_neg (show ¬ (false = true) from by decide)] at g
          unfold waitN at g
          rw [upN_ne (by omega), upN_ne (by omega)] at g
          omega
        · rw [gf, if_pos rfl, go_0] at g
          omega
    · rw [ge, if_pos rfl] at g
      rw [if_pos rfl]
      rw [eat_0] at g
      rw [eat_5]
      have := eats_1 ge
      by_cases q : eat2 σ j (40 + 18 * j + 1) = 0
      · rw [if_pos q]; omega
      · rw [if_neg q] at g; omega
  · have a1 := act_j (σ := σ) (i := i) (j := j) (w := 0) z (by omega)
    have a5 := act_j (σ := σ) (i := i) (j := j) (w := 5) z (by omega)
    rw [a5]
    exact h j hj (a1.symm.trans g)
theorem acts_GT : ∀ n i (σ : Nat → Nat), WF σ → i + n ≤ σ 0 → GTd 1 σ → GTd 1 (actsN σ n i) := by
  intro n
  induction n with
  | zero => intro i σ _ _ h; exact h
  | succ n ih =>
    intro i σ hW hi h
    exact ih (i + 1) _ (act_WF hW (by omega)) (by rw [act_0 (by omega) (by omega)]; omega) (act_GT hW (by omega) h)
theorem tick_GT (hW : WF σ) (h : GTd 0 σ) : GTd 0 (tickN σ) := by
  have h1 := acts_GT (σ 0) 0 σ hW (by omega) (fun i hi g => by have := h i hi g; omega)
  have e0 : actsN σ (σ 0) 0 0 = σ 0 := actsN_lo (by omega) (by omega) _ _ _
  have e1 : actsN σ (σ 0) 0 1 = σ 1 := actsN_lo (by omega) (by omega) _ _ _
  intro i hi g
  unfold tickN at hi g ⊢
  rw [upN_ne (by omega)] at hi g
  rw [upN_ne (by omega), upN_same]
  have := h1 i hi g
  rw [e1] at this
  exact this
theorem ticks_GT : ∀ n (σ : Nat → Nat), WF σ → GTd 0 σ → GTd 0 (ticksN σ n) := by
  intro n
  induction n with
  | zero => intro σ _ h; exact h
  | succ n ih => intro σ hW h; exact ih _ (tick_WF hW) (tick_GT hW h)
theorem hat_GT (h : GTd 0 σ) (c f n : Nat) : GTd 0 (hatN σ c f n) := by
  intro i hi g
  rw [hat_0] at hi
  rw [hat_lo (x := 1) c f n (by omega) (by omega)]
  by_cases z : i = σ 0
  · subst z
    have := hat_w (σ := σ) c f n (w := 0) (by omega)
    rw [Nat.add_zero] at this
    rw [this] at g
    simp at g
  · have a0 := hat_j (σ := σ) c f n z (w := 0) (by omega)
    rw [hat_j (w := 5) c f n z (by omega)]
    exact h i (by omega) (a0.symm.trans g)
theorem rule_GT (h : GTd 0 σ) : GTd 0 (upN σ 2 v) := by
  intro i hi g
  rw [upN_ne (by omega)] at hi g
  rw [upN_ne (by omega), upN_ne (by omega)]
  exact h i hi g
theorem shut_GT (h : GTd 0 σ) (hk : k < 36) : GTd 0 (upN σ (4 + k) v) := by
  intro i hi g
  rw [upN_ne (by omega)] at hi g
  rw [upN_ne (by omega), upN_ne (by omega)]
  exact h i hi g
theorem pull_GT (h : GTd 0 σ) : GTd 0 (pulN σ i) := by
  intro j hj g
  rw [pul_o (by omega) (by omega) (by omega)] at hj
  by_cases z : j = i
  · subst z
    rw [pul_0] at g; omega
  · rw [pul_o (by omega) (by omega) (by omega)] at g
    rw [pul_o (by omega) (by omega) (by omega), pul_o (by omega) (by omega) (by omega)]
    exact h j hj g
end GTS
section CMD
variable {σ τ κ : Nat → Nat} {d i k w v x m m2 a b : Nat} {la cn us : Int32} {ch : Nat → Int32} {C G sv T B : Nat → Int32} {O : Nat → Int64} {rf zs ac sp ou : Int32} {mt N jT jO dy kp ik : Nat → Int32}
theorem len_of (y : Int32) : (∃ n, (1 ≤ n ∧ n ≤ 9) ∧ y = nI n) ∨ (∀ n, 1 ≤ n → n ≤ 9 → y ≠ nI n) := by
  by_cases h : ∃ n, (1 ≤ n ∧ n ≤ 9) ∧ y = nI n
  · exact Or.inl h
  · exact Or.inr fun n h1 h2 e => h ⟨n, ⟨h1, h2⟩, e⟩
theorem tic_of (y : Int32) : (∃ n, (1 ≤ n ∧ n ≤ 60) ∧ y = nI n) ∨ (∀ n, 1 ≤ n → n ≤ 60 → y ≠ nI n) := by
  by_cases h : ∃ n, (1 ≤ n ∧ n ≤ 60) ∧ y = nI n
  · exact Or.inl h
  · exact Or.inr fun n h1 h2 e => h ⟨n, ⟨h1, h2⟩, e⟩
end CMD
