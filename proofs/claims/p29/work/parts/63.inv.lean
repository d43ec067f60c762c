/-! WHAT HOLDS OF EACH HOUSE, more than the class's own answers want: lengths, ways, waits, shut rooms -/
def dst (a b : Nat) : Nat := (a % 6 - b % 6) + (b % 6 - a % 6) + ((a / 6 - b / 6) + (b / 6 - a / 6))
def nrb (a b : Nat) : Bool := (a % 6 == b % 6 && (a == b + 6 || b == a + 6)) || (a / 6 == b / 6 && (a == b + 1 || b == a + 1))
theorem alR_dst : ∀ a, a < 36 → ∀ b, b < 36 → alR a b = 4294967295 ∨ (dst (alR a b) b + 1 = dst a b ∧ nrb (alR a b) a = true) := by decide +kernel
theorem alC_dst : ∀ a, a < 36 → ∀ b, b < 36 → alC a b = 4294967295 ∨ (dst (alC a b) b + 1 = dst a b ∧ nrb (alC a b) a = true) := by decide +kernel
/-- one caterpillar -/
def XW (σ : Nat → Nat) (i : Nat) : Prop :=
  (σ (40 + 18 * i) ≠ 3 → σ (40 + 18 * i + 1) + σ (40 + 18 * i + 2) + σ (40 + 18 * i + 3) = σ (40 + 18 * i + 8)) ∧
  (σ (40 + 18 * i) = 3 → σ (40 + 18 * i + 3) < σ (40 + 18 * i + 8)) ∧
  (σ (40 + 18 * i) = 2 ↔ σ (40 + 18 * i + 5) ≠ 4294967295) ∧
  (σ (40 + 18 * i) = 1 → 0 < σ (40 + 18 * i + 2) → σ (40 + 18 * i + (9 + (σ (40 + 18 * i + 1) - 1))) = σ (40 + 18 * i + 6)) ∧
  (σ (40 + 18 * i) = 1 → 0 < σ (40 + 18 * i + 3) → σ (40 + 18 * i + 9) = σ (40 + 18 * i + 7)) ∧
  (∀ p, p + 1 < σ (40 + 18 * i + 1) → σ (40 + 18 * i + (9 + p)) = alR (σ (40 + 18 * i + (9 + (p + 1)))) (σ (40 + 18 * i + 7)) ∨ σ (40 + 18 * i + (9 + p)) = alC (σ (40 + 18 * i + (9 + (p + 1)))) (σ (40 + 18 * i + 7))) ∧
  (σ (40 + 18 * i) = 0 → σ (40 + 18 * i + 3) = 0)
def XF (σ : Nat → Nat) : Prop := (∀ i, i < σ 0 → XW σ i) ∧ σ 3 = sumN (fun i => σ (40 + 18 * i + 4)) (σ 0) ∧ ∀ i p, i < σ 0 → p < σ (40 + 18 * i + 1) → σ (4 + σ (40 + 18 * i + (9 + p))) = 0
section XWS
variable {σ τ : Nat → Nat} {i j k w v : Nat}
theorem XW_congr (h9 : σ (40 + 18 * j + 1) ≤ 9) (e : ∀ w, w < 18 → w ≠ 4 → τ (40 + 18 * j + w) = σ (40 + 18 * j + w)) (h : XW σ j) : XW τ j := by
  have e0 : τ (40 + 18 * j) = σ (40 + 18 * j) := e 0 (by omega) (by omega)
  have e1 := e 1 (by omega) (by omega)
  have e2 := e 2 (by omega) (by omega)
  have e3 := e 3 (by omega) (by omega)
  have e5 := e 5 (by omega) (by omega)
  have e6 := e 6 (by omega) (by omega)
  have e7 := e 7 (by omega) (by omega)
  have e8 := e 8 (by omega) (by omega)
  have e9 := e 9 (by omega) (by omega)
  obtain ⟨a1, a2, a3, a4, a5, a6, a7⟩ := h
  refine ⟨?_, ?_, ?_, ?_, ?_, ?_, ?_⟩
  · rw [e0, e1, e2, e3, e8]; exact a1
  · rw [e0, e3, e8]; exact a2
  · rw [e0, e5]; exact a3
  · rw [e0, e1, e2, e6, e (9 + (σ (40 + 18 * j + 1) - 1)) (by omega) (by omega)]; exact a4
  · rw [e0, e3, e7, e9]; exact a5
  · rw [e1, e7]
    intro p hp
    rw [e (9 + p) (by omega) (by omega), e (9 + (p + 1)) (by omega) (by omega)]
    exact a6 p hp
  · rw [e0, e3]; exact a7
theorem nr_al (σ : Nat → Nat) (i : Nat) : nr σ i = alR (σ (40 + 18 * i + 9)) (σ (40 + 18 * i + 7)) ∨ nr σ i = alC (σ (40 + 18 * i + 9)) (σ (40 + 18 * i + 7)) := by
  unfold nr nrF
  split
  · exact Or.inr rfl
  · split
    · exact Or.inr rfl
    · exact Or.inl rfl
theorem XW_go (h : WF σ) (hX : XW σ i) (hi : i < σ 0) (h1 : σ (40 + 18 * i) ≤ 1) (he : eats σ i = false) (hk : wants σ i = k) : XW (goN σ i k) i := by
  obtain ⟨c1, c2, c3, c4, c5, c6, c7, c8, c9, c10, c11⟩ := h.2.2.2.1 i hi
  obtain ⟨a1, a2, a3, a4, a5, a6, a7⟩ := hX
  have s1 := a1 (by omega)
  have g1 := go_1 (σ := σ) (i := i) (k := k)
  have g2 := go_2 (σ := σ) (i := i) (k := k)
  have g3 := go_o (σ := σ) (i := i) (k := k) (x := 40 + 18 * i + 3) (by omega)
  have g5 := go_o (σ := σ) (i := i) (k := k) (x := 40 + 18 * i + 5) (by omega)
  have g6 := go_o (σ := σ) (i := i) (k := k) (x := 40 + 18 * i + 6) (by omega)
  have g7 := go_o (σ := σ) (i := i) (k := k) (x := 40 + 18 * i + 7) (by omega)
  have g8 := go_o (σ := σ) (i := i) (k := k) (x := 40 + 18 * i + 8) (by omega)
  have hl : σ (40 + 18 * i + 1) + σ (40 + 18 * i + 2) + σ (40 + 18 * i + 3) = σ (40 + 18 * i + 8) := s1
  refine ⟨fun _ => ?_, fun z => ?_, ?_, fun _ hP => ?_, fun _ hE => ?_, fun p hp => ?_, fun z => ?_⟩
  · rw [g1, g2, g3, g8]
    split <;> omega
  · rw [go_0] at z; omega
  · rw [go_0, g5]
    exact ⟨fun z => by omega, fun z => absurd (a3.mpr z) (by omega)⟩
  · rw [g2] at hP
    rw [g6, g1, if_neg (by omega), Nat.add_sub_cancel]
    by_cases z : σ (40 + 18 * i) = 0
    · rw [c9 (by omega)]
      rw [show 40 + 18 * i + (9 + 0) = 40 + 18 * i + 9 from rfl, go_h, ← hk]
      unfold wants
      rw [if_pos z]
    · have l1 := c8 (by omega)
      have e := a4 (by omega) (by omega)
      obtain ⟨q, hq⟩ : ∃ q, σ (40 + 18 * i + 1) = q + 1 := ⟨σ (40 + 18 * i + 1) - 1, by omega⟩
      rw [hq] at e ⊢
      rw [go_r (p := q) (by omega) (by omega)]
      exact e
  · rw [g3] at hE
    by_cases z : σ (40 + 18 * i) = 0
    · have := a7 z; omega
    · have e := a5 (by omega) hE
      have : eats σ i = true := by
        simp only [eats, Bool.and_eq_true, beq_iff_eq]
        exact ⟨by omega, e⟩
      rw [he] at this
      cases this
  · rw [g7]
    rw [g1] at hp
    cases p with
    | zero =>
      by_cases z : σ (40 + 18 * i) = 0
      · have := c9 (by omega)
        split at hp <;> omega
      · have l1 := c8 (by omega)
        rw [show 40 + 18 * i + (9 + 0) = 40 + 18 * i + 9 from rfl, go_h, go_r (p := 0) (by omega) (by omega), ← hk]
        have e : wants σ i = nr σ i := by
          unfold wants
          rw [if_neg z, if_pos ⟨by omega, he⟩]
        rw [e]
        exact nr_al σ i
    | succ q =>
      have hq : q + 2 ≤ σ (40 + 18 * i + 1) := by split at hp <;> omega
      have hq8 : q + 2 ≤ 8 := by split at hp <;> omega
      rw [go_r (p := q) (by omega) (by omega), go_r (p := q + 1) (by omega) (by omega)]
      exact a6 q (by omega)
  · rw [go_0] at z; omega
theorem XW_eat (h : WF σ) (hX : XW σ i) (hi : i < σ 0) (he : eats σ i = true) (ht : σ 1 + 1 ≠ 4294967295) : XW (eatN σ i) i := by
  obtain ⟨c1, c2, c3, c4, c5, c6, c7, c8, c9, c10, c11⟩ := h.2.2.2.1 i hi
  obtain ⟨a1, a2, a3, a4, a5, a6, a7⟩ := hX
  have h1 := eats_1 he
  have hh : σ (40 + 18 * i + 9) = σ (40 + 18 * i + 7) := by
    simp only [eats, Bool.and_eq_true, beq_iff_eq] at he
    exact he.2
  have l1 := c8 h1
  have s1 := a1 (by omega)
  have g1 : eatN σ i (40 + 18 * i + 1) = if σ (40 + 18 * i + 2) = 0 then σ (40 + 18 * i + 1) - 1 else σ (40 + 18 * i + 1) := by rw [eat_x (by omega) (by omega), eat2_1]
  have g2 : eatN σ i (40 + 18 * i + 2) = σ (40 + 18 * i + 2) - 1 := by rw [eat_x (by omega) (by omega), eat2_2]
  have g3 : eatN σ i (40 + 18 * i + 3) = σ (40 + 18 * i + 3) + 1 := by rw [eat_x (by omega) (by omega), eat2_3]
  have g6 := eat_o (σ := σ) (i := i) (x := 40 + 18 * i + 6) (by omega)
  have g7 := eat_o (σ := σ) (i := i) (x := 40 + 18 * i + 7) (by omega)
  have g8 := eat_o (σ := σ) (i := i) (x := 40 + 18 * i + 8) (by omega)
  have g9 := eat_o (σ := σ) (i := i) (x := 40 + 18 * i + 9) (by omega)
  have g0 := eat_0 (σ := σ) (i := i)
  have g5 := eat_5 (σ := σ) (i := i)
  rw [h1] at g0
  rw [eat2_1] at g0 g5
  have n5 : σ (40 + 18 * i + 5) = 4294967295 := by
    by_cases z : σ (40 + 18 * i + 5) = 4294967295
    · exact z
    · have := a3.mpr z; omega
  refine ⟨fun _ => ?_, fun z => ?_, ?_, fun _ hP => ?_, fun _ hE => ?_, fun p hp => ?_, fun z => ?_⟩
  · rw [g1, g2, g3, g8]
    split <;> omega
  · rw [g0] at z
    (repeat' (split at z)) <;> omega
  · rw [g0, g5]
    by_cases z : (if σ (40 + 18 * i + 2) = 0 then σ (40 + 18 * i + 1) - 1 else σ (40 + 18 * i + 1)) = 0
    · rw [if_pos z, if_pos z]
      exact ⟨fun _ => ht, fun _ => rfl⟩
    · rw [if_neg z, if_neg z]
      exact ⟨fun y => by omega, fun y => absurd n5 y⟩
  · rw [g2] at hP
    rw [g1, if_neg (by omega), g6, eat_o (by omega)]
    exact a4 h1 (by omega)
  · rw [g9, g7]; exact hh
  · rw [g1] at hp
    rw [g7, eat_o (by omega), eat_o (by omega)]
    exact a6 p (by split at hp <;> omega)
  · rw [g0] at z
    (repeat' (split at z)) <;> omega
theorem sum_bump {f g : Nat → Nat} : ∀ n, i < n → g i = f i + 1 → (∀ j, j < n → j ≠ i → g j = f j) → sumN g n = sumN f n + 1 := by
  intro n
  induction n with
  | zero => intro h; omega
  | succ n ih =>
    intro hi he ho
    rw [sumN, sumN]
    by_cases z : i = n
    · subst z
      rw [he, sum_congr (f := g) (g := f) i (fun j hj => ho j (by omega) (by omega))]
      omega
    · rw [ih (by omega) he (fun j hj hne => ho j (by omega) hne), ho n (by omega) (by omega)]
      omega
theorem act_XF (h : WF σ) (hX : XF σ) (hi : i < σ 0) (ht : σ 1 + 1 ≠ 4294967295) : XF (act σ i) := by
  obtain ⟨x1, x2, x3⟩ := hX
  have z0 : act σ i 0 = σ 0 := act_0 (by omega) (by omega)
  have hj : ∀ j w, j ≠ i → w < 18 → act σ i (40 + 18 * j + w) = σ (40 + 18 * j + w) := fun j w a b => act_j a b
  have hoth : ∀ j, j < σ 0 → j ≠ i → XW (act σ i) j := fun j a b => XW_congr (CW_lies (h.2.2.2.1 j a)) (fun w c _ => hj j w b c) (x1 j a)
  have hs : ∀ k, k < 36 → act σ i (4 + k) = σ (4 + k) := fun k hk => act_0 (by omega) (by omega)
  have g2 : (∀ p, p < act σ i (40 + 18 * i + 1) → σ (4 + act σ i (40 + 18 * i + (9 + p))) = 0 ∧ act σ i (40 + 18 * i + (9 + p)) < 36) → ∀ j p, j < act σ i 0 → p < act σ i (40 + 18 * j + 1) → act σ i (4 + act σ i (40 + 18 * j + (9 + p))) = 0 := by
    intro hme j p hj0 hp
    rw [z0] at hj0
    by_cases e : j = i
    · subst e
      obtain ⟨b1, b2⟩ := hme p hp
      rw [hs _ b2]
      exact b1
    · have cl := CW_lies (h.2.2.2.1 j hj0)
      rw [hj j 1 e (by omega)] at hp
      rw [hj j (9 + p) e (by omega), hs _ ((h.2.2.2.1 j hj0).2.2.2.2.2.2.1 p hp)]
      exact x3 j p hj0 hp
  obtain ⟨c1, c2, c3, c4, c5, c6, c7, c8, c9, c10, c11⟩ := h.2.2.2.1 i hi
  have cl := CW_lies (h.2.2.2.1 i hi)
  have same : (act σ i 3 = σ 3 → act σ i (40 + 18 * i + 4) = σ (40 + 18 * i + 4) → act σ i 3 = sumN (fun i_1 => act σ i (40 + 18 * i_1 + 4)) (act σ i 0)) := by
    intro e3 e4
    rw [e3, z0, x2]
    refine sum_congr _ (fun j a => ?_)
    by_cases e : j = i
    · subst e; exact e4.symm
    · exact (hj j 4 e (by omega)).symm
  refine ⟨fun j hj0 => ?_, ?_, ?_⟩
  · rw [z0] at hj0
    by_cases e : j = i
    · subst e
      unfold act
      cases ge : eats σ j
      · rw [if_neg (by decide)]
        by_cases gw : wants σ j = 4294967295
        · rw [if_pos gw]; exact x1 j hi
        · rw [if_neg gw]
          cases gf : fr σ (wants σ j)
          · rw [if_neg (by decide)]
            refine XW_congr cl (fun w a b => ?_) (x1 j hi)
            unfold waitN
            rw [upN_ne (by omega), upN_ne (by omega)]
          · rw [if_pos rfl]
            exact XW_go h (x1 j hi) hi (wants_1 gw) ge rfl
      · rw [if_pos rfl]
        exact XW_eat h (x1 j hi) hi ge ht
    · exact hoth j hj0 e
  · have key := same
    revert key
    unfold act
    cases ge : eats σ i
    · rw [if_neg (by decide)]
      by_cases gw : wants σ i = 4294967295
      · rw [if_pos gw]; intro key; exact key rfl rfl
      · rw [if_neg gw]
        cases gf : fr σ (wants σ i)
        · rw [if_neg (by decide)]
          intro _
          unfold waitN
          rw [upN_same, upN_ne (by omega), upN_ne (by omega), x2]
          refine (sum_bump (i := i) (σ 0) hi ?_ (fun j a b => ?_)).symm
          · show upN _ _ _ _ = _
            rw [upN_ne (by omega), upN_same]
          · show upN _ _ _ _ = _
            rw [upN_ne (by omega), upN_ne (by omega)]
        · rw [if_pos rfl]
          intro key
          exact key (go_o (by omega)) (go_o (by omega))
    · rw [if_pos rfl]
      intro key
      exact key (eat_o (by omega)) (by rw [eat_x (by omega) (by omega), eat2_o (by omega) (by omega) (by omega)])
  · refine g2 ?_
    have old : ∀ p, p < σ (40 + 18 * i + 1) → σ (4 + σ (40 + 18 * i + (9 + p))) = 0 ∧ σ (40 + 18 * i + (9 + p)) < 36 := fun p hp => ⟨x3 i p hi hp, c7 p hp⟩
    have hw := wants_in h hi
    unfold act
    cases ge : eats σ i
    · rw [if_neg (by decide)]
      by_cases gw : wants σ i = 4294967295
      · rw [if_pos gw]; exact old
      · rw [if_neg gw]
        cases gf : fr σ (wants σ i)
        · rw [if_neg (by decide)]
          intro p hp
          unfold waitN at hp ⊢
          rw [upN_ne (by omega), upN_ne (by omega)] at hp
          rw [upN_ne (by omega), upN_ne (by omega)]
          exact old p hp
        · rw [if_pos rfl]
          intro p hp
          rw [go_1] at hp
          cases p with
          | zero =>
            rw [show 40 + 18 * i + (9 + 0) = 40 + 18 * i + 9 from rfl, go_h]
            simp only [fr, Bool.and_eq_true, beq_iff_eq] at gf
            exact ⟨gf.1, by omega⟩
          | succ q =>
            have g1 := wants_1 gw
            rw [go_r (p := q) (by split at hp <;> omega) (by split at hp <;> omega)]
            exact old q (by split at hp <;> omega)
    · rw [if_pos rfl]
      intro p hp
      rw [eat_x (by omega) (by omega), eat2_1] at hp
      rw [eat_o (by omega)]
      exact old p (by split at hp <;> omega)
theorem actsN_XF : ∀ n i (σ : Nat → Nat), WF σ → XF σ → i + n ≤ σ 0 → σ 1 + 1 ≠ 4294967295 → XF (actsN σ n i) := by
  intro n
  induction n with
  | zero => intro i σ _ h _ _; exact h
  | succ n ih =>
    intro i σ hW h hi ht
    rw [actsN]
    have z0 : act σ i 0 = σ 0 := act_0 (by omega) (by omega)
    have z1 : act σ i 1 = σ 1 := act_0 (by omega) (by omega)
    exact ih (i + 1) _ (act_WF hW (by omega)) (act_XF hW h (by omega) ht) (by omega) (by omega)
theorem XF_lo (hW : WF σ) (h : XF σ) (h0 : τ 0 = σ 0) (h3 : τ 3 = σ 3) (hs : ∀ k, k < 36 → τ (4 + k) = σ (4 + k)) (ho : ∀ j w, j < σ 0 → w < 18 → τ (40 + 18 * j + w) = σ (40 + 18 * j + w)) : XF τ := by
  obtain ⟨x1, x2, x3⟩ := h
  refine ⟨fun j hj => ?_, ?_, fun j p hj hp => ?_⟩
  · exact XW_congr (CW_lies (hW.2.2.2.1 j (by omega))) (fun w a _ => ho j w (by omega) a) (x1 j (by omega))
  · rw [h3, h0, x2]
    exact sum_congr _ (fun j a => (ho j 4 a (by omega)).symm)
  · have cl := CW_lies (hW.2.2.2.1 j (by omega))
    rw [ho j 1 (by omega) (by omega)] at hp
    rw [ho j (9 + p) (by omega) (by omega), hs _ ((hW.2.2.2.1 j (by omega)).2.2.2.2.2.2.1 p hp)]
    exact x3 j p (by omega) hp
theorem tick_XF (hW : WF σ) (h : XF σ) (ht : σ 1 + 1 ≠ 4294967295) : XF (tickN σ) := by
  have hW2 := actsN_WF (σ 0) 0 σ hW (by omega)
  have h2 := actsN_XF (σ 0) 0 σ hW h (by omega) ht
  unfold tickN
  exact XF_lo hW2 h2 (upN_ne (by omega)) (upN_ne (by omega)) (fun k _ => upN_ne (by omega)) (fun j w _ _ => upN_ne (by omega))
theorem ticks_XF : ∀ n (σ : Nat → Nat), WF σ → XF σ → σ 1 + n < 4294967295 → XF (ticksN σ n) := by
  intro n
  induction n with
  | zero => intro σ _ h _; exact h
  | succ n ih =>
    intro σ hW h ht
    rw [ticksN]
    exact ih _ (tick_WF hW) (tick_XF hW h (by omega)) (by rw [tick_1]; omega)
/-- none waits more than there were ticks -/
def WT (σ : Nat → Nat) : Prop := ∀ i, i < σ 0 → σ (40 + 18 * i + 4) ≤ σ 1
theorem act_w4 (σ : Nat → Nat) (i : Nat) : act σ i (40 + 18 * i + 4) ≤ σ (40 + 18 * i + 4) + 1 := by
  unfold act
  split
  · rw [eat_x (by omega) (by omega), eat2_o (by omega) (by omega) (by omega)]; omega
  · split
    · omega
    · split
      · rw [go_o (by omega)]; omega
      · unfold waitN
        rw [upN_ne (by omega), upN_same]
        omega
theorem acts_w4 : ∀ n i (σ : Nat → Nat), actsN σ n i (40 + 18 * j + 4) ≤ σ (40 + 18 * j + 4) + (if i ≤ j then 1 else 0) := by
  intro n
  induction n with
  | zero => intro i σ; rw [actsN]; split <;> omega
  | succ n ih =>
    intro i σ
    rw [actsN]
    have h := ih (i + 1) (act σ i)
    by_cases e : j = i
    · subst e
      rw [if_neg (by omega)] at h
      rw [if_pos (Nat.le_refl _)]
      have := act_w4 σ j
      omega
    · rw [act_j (w := 4) e (by omega)] at h
      by_cases g : i ≤ j
      · rw [if_pos g]
        rw [if_pos (by omega)] at h
        exact h
      · rw [if_neg g]
        rw [if_neg (by omega)] at h
        exact h
theorem tick_WT (h : WT σ) : WT (tickN σ) := by
  intro i hi
  rw [tick_0] at hi
  rw [tick_1]
  unfold tickN
  rw [upN_ne (by omega)]
  have h1 := acts_w4 (j := i) (σ 0) 0 σ
  rw [if_pos (Nat.zero_le _)] at h1
  have h2 := h i hi
  omega
theorem ticks_WT : ∀ n (σ : Nat → Nat), WT σ → WT (ticksN σ n) := by
  intro n
  induction n with
  | zero => intro σ h; exact h
  | succ n ih => intro σ h; rw [ticksN]; exact ih _ (tick_WT h)
theorem hat_XF (hW : WF σ) (h : XF σ) {c f n : Nat} (hn1 : 1 ≤ n) : XF (hatN σ c f n) := by
  obtain ⟨x1, x2, x3⟩ := h
  have z0 : hatN σ c f n 0 = σ 0 + 1 := hat_0 c f n
  refine ⟨fun j hj => ?_, ?_, fun j p hj hp => ?_⟩
  · rw [z0] at hj
    by_cases e : j = σ 0
    · subst e
      have w0 : hatN σ c f n (40 + 18 * σ 0) = 0 := hat_w (w := 0) c f n (by omega)
      have w1 : hatN σ c f n (40 + 18 * σ 0 + 1) = 0 := hat_w (w := 1) c f n (by omega)
      have w2 : hatN σ c f n (40 + 18 * σ 0 + 2) = n := hat_w (w := 2) c f n (by omega)
      have w3 : hatN σ c f n (40 + 18 * σ 0 + 3) = 0 := hat_w (w := 3) c f n (by omega)
      have w5 : hatN σ c f n (40 + 18 * σ 0 + 5) = 4294967295 := hat_w (w := 5) c f n (by omega)
      have w8 : hatN σ c f n (40 + 18 * σ 0 + 8) = n := hat_w (w := 8) c f n (by omega)
      refine ⟨fun _ => ?_, fun z => ?_, ?_, fun z => ?_, fun z => ?_, fun p hp => ?_, fun _ => ?_⟩
      · rw [w1, w2, w3, w8]; omega
      · rw [w0] at z; omega
      · rw [w0, w5]; exact ⟨fun z => by omega, fun z => absurd rfl z⟩
      · rw [w0] at z; omega
      · rw [w0] at z; omega
      · rw [w1] at hp; omega
      · exact w3
    · exact XW_congr (CW_lies (hW.2.2.2.1 j (by omega))) (fun w a _ => hat_j c f n e a) (x1 j (by omega))
  · rw [hat_lo c f n (by omega) (by omega), z0, sumN, x2]
    have w4 : hatN σ c f n (40 + 18 * σ 0 + 4) = 0 := hat_w (w := 4) c f n (by omega)
    rw [w4, Nat.add_zero]
    exact sum_congr _ (fun j a => (hat_j c f n (by omega) (by omega)).symm)
  · rw [z0] at hj
    by_cases e : j = σ 0
    · subst e
      have w1 : hatN σ c f n (40 + 18 * σ 0 + 1) = 0 := hat_w (w := 1) c f n (by omega)
      rw [w1] at hp; omega
    · have cl := CW_lies (hW.2.2.2.1 j (by omega))
      have hp2 : p < σ (40 + 18 * j + 1) := by rw [hat_j c f n e (by omega)] at hp; exact hp
      have hr := (hW.2.2.2.1 j (by omega)).2.2.2.2.2.2.1 p hp2
      rw [hat_j c f n e (by omega), hat_lo c f n (by omega) (by omega)]
      exact x3 j p (by omega) hp2
theorem hat_WT (h : WT σ) (c f n : Nat) : WT (hatN σ c f n) := by
  intro j hj
  rw [hat_0] at hj
  rw [hat_lo (x := 1) c f n (by omega) (by omega)]
  by_cases e : j = σ 0
  · subst e
    have w4 : hatN σ c f n (40 + 18 * σ 0 + 4) = 0 := hat_w (w := 4) c f n (by omega)
    rw [w4]; omega
  · rw [hat_j c f n e (by omega)]
    exact h j (by omega)
theorem rule_XF (hW : WF σ) (h : XF σ) : XF (upN σ 2 v) := XF_lo hW h (upN_ne (by omega)) (upN_ne (by omega)) (fun k _ => upN_ne (by omega)) (fun j w _ _ => upN_ne (by omega))
theorem rule_WT (h : WT σ) : WT (upN σ 2 v) := by
  intro j hj
  rw [upN_ne (by omega)] at hj
  rw [upN_ne (by omega), upN_ne (by omega)]
  exact h j hj
theorem shut_WT (h : WT σ) (hk : k < 36) : WT (upN σ (4 + k) v) := by
  intro j hj
  rw [upN_ne (by omega)] at hj
  rw [upN_ne (by omega), upN_ne (by omega)]
  exact h j hj
theorem shut_XF (hW : WF σ) (h : XF σ) (hk : k < 36) (hv : v = 0 ∨ tk σ k = 4294967295) : XF (upN σ (4 + k) v) := by
  obtain ⟨x1, x2, x3⟩ := h
  have z0 : upN σ (4 + k) v 0 = σ 0 := upN_ne (by omega)
  refine ⟨fun j hj => ?_, ?_, fun j p hj hp => ?_⟩
  · rw [z0] at hj
    exact XW_congr (CW_lies (hW.2.2.2.1 j hj)) (fun w a _ => upN_ne (by omega)) (x1 j hj)
  · rw [upN_ne (by omega), z0, x2]
    exact sum_congr _ (fun j a => (upN_ne (by omega)).symm)
  · rw [z0] at hj
    rw [upN_ne (by omega)] at hp
    rw [upN_ne (k := 4 + k) (j := 40 + 18 * j + (9 + p)) (by omega)]
    have hr := (hW.2.2.2.1 j hj).2.2.2.2.2.2.1 p hp
    by_cases e : σ (40 + 18 * j + (9 + p)) = k
    · rw [e, upN_same]
      rcases hv with hv | hv
      · exact hv
      · have := tk_of hW hj (occ_iff.mpr ⟨p, hp, e⟩)
        have := hW.1
        omega
    · rw [upN_ne (by omega)]
      exact x3 j p hj hp
theorem pull_XF (hW : WF σ) (h : XF σ) (hi : i < σ 0) (h1 : σ (40 + 18 * i) ≤ 1) : XF (pulN σ i) := by
  obtain ⟨x1, x2, x3⟩ := h
  have z0 : pulN σ i 0 = σ 0 := pul_o (by omega) (by omega) (by omega)
  obtain ⟨c1, c2, c3, c4, c5, c6, c7, c8, c9, c10, c11⟩ := hW.2.2.2.1 i hi
  obtain ⟨a1, a2, a3, a4, a5, a6, a7⟩ := x1 i hi
  refine ⟨fun j hj => ?_, ?_, fun j p hj hp => ?_⟩
  · rw [z0] at hj
    by_cases e : j = i
    · subst e
      have e3 : pulN σ j (40 + 18 * j + 3) = σ (40 + 18 * j + 3) := pul_o (by omega) (by omega) (by omega)
      have e5 : pulN σ j (40 + 18 * j + 5) = σ (40 + 18 * j + 5) := pul_o (by omega) (by omega) (by omega)
      have e8 : pulN σ j (40 + 18 * j + 8) = σ (40 + 18 * j + 8) := pul_o (by omega) (by omega) (by omega)
      refine ⟨fun z => absurd pul_0 z, fun _ => ?_, ?_, fun z => ?_, fun z => ?_, fun p hp => ?_, fun z => ?_⟩
      · rw [e3, e8]
        have s1 := a1 (by omega)
        by_cases z : σ (40 + 18 * j) = 0
        · have := a7 z; omega
        · have := c8 (by omega); omega
      · rw [pul_0, e5]
        exact ⟨fun z => by omega, fun z => absurd (a3.mpr z) (by omega)⟩
      · rw [pul_0] at z; omega
      · rw [pul_0] at z; omega
      · rw [pul_1] at hp; omega
      · rw [pul_0] at z; omega
    · exact XW_congr (CW_lies (hW.2.2.2.1 j hj)) (fun w a _ => pul_o (by omega) (by omega) (by omega)) (x1 j hj)
  · rw [pul_o (by omega) (by omega) (by omega), z0, x2]
    exact sum_congr _ (fun j a => (pul_o (by omega) (by omega) (by omega)).symm)
  · rw [z0] at hj
    by_cases e : j = i
    · subst e
      rw [pul_1] at hp; omega
    · have cl := CW_lies (hW.2.2.2.1 j hj)
      have hp2 : p < σ (40 + 18 * j + 1) := by rw [pul_o (by omega) (by omega) (by omega)] at hp; exact hp
      have hr := (hW.2.2.2.1 j hj).2.2.2.2.2.2.1 p hp2
      rw [pul_o (x := 40 + 18 * j + (9 + p)) (by omega) (by omega) (by omega), pul_o (by omega) (by omega) (by omega)]
      exact x3 j p hj hp2
theorem pull_WT (h : WT σ) : WT (pulN σ i) := by
  intro j hj
  rw [pul_o (by omega) (by omega) (by omega)] at hj
  rw [pul_o (by omega) (by omega) (by omega), pul_o (by omega) (by omega) (by omega)]
  exact h j hj
end XWS
