section OPS
variable {σ τ : Nat → Nat} {i k w v : Nat}
theorem act_gone {j : Nat} (h : σ (40 + 18 * j) = 2) : act σ i (40 + 18 * j) = 2 := by
  by_cases hj : j = i
  · subst hj
    unfold act
    have he : eats σ j = false := by simp [eats, h]
    have hw : wants σ j = 4294967295 := by
      unfold wants
      rw [if_neg (by omega), if_neg (fun z => by omega)]
    rw [he, if_neg (by decide), if_pos hw]
    exact h
  · have := act_j (σ := σ) (i := i) (j := j) (w := 0) hj (by omega)
    rw [Nat.add_zero] at this
    rw [this, h]
theorem actsN_gone {j : Nat} : ∀ n i (σ : Nat → Nat), σ (40 + 18 * j) = 2 → actsN σ n i (40 + 18 * j) = 2 := by
  intro n
  induction n with
  | zero => intro i σ h; exact h
  | succ n ih => intro i σ h; exact ih _ _ (act_gone h)
theorem tick_gone {j : Nat} (h : σ (40 + 18 * j) = 2) : tickN σ (40 + 18 * j) = 2 := by
  unfold tickN
  rw [upN_ne (by omega)]
  exact actsN_gone _ _ _ h
theorem ticks_gone {j : Nat} : ∀ n (σ : Nat → Nat), σ (40 + 18 * j) = 2 → ticksN σ n (40 + 18 * j) = 2 := by
  intro n
  induction n with
  | zero => intro σ h; exact h
  | succ n ih => intro σ h; exact ih _ (tick_gone h)
theorem cnt_mono (h : ∀ j, σ (40 + 18 * j) = w → τ (40 + 18 * j) = w) : ∀ n i, cnt σ w n i ≤ cnt τ w n i := by
  intro n
  induction n with
  | zero => intro i; exact Nat.le_refl _
  | succ n ih =>
    intro i
    rw [cnt, cnt]
    have := ih (i + 1)
    have : bN (σ (40 + 18 * i) == w) ≤ bN (τ (40 + 18 * i) == w) := by
      by_cases g : σ (40 + 18 * i) = w
      · rw [beq_iff_eq.mpr g, beq_iff_eq.mpr (h i g)]; exact Nat.le_refl _
      · rw [beq_eq_false_iff_ne.mpr g]; exact Nat.zero_le _
    omega
theorem ticks_0 (n : Nat) (σ : Nat → Nat) : ticksN σ n 0 = σ 0 := ticks_lo (by omega) (by omega) (by omega) n σ
theorem gone_mono (n : Nat) (σ : Nat → Nat) : cntN σ 2 ≤ cntN (ticksN σ n) 2 := by
  unfold cntN
  rw [ticks_0]
  exact cnt_mono (fun j h => ticks_gone n σ h) _ _
theorem ticksOn_E (h : WF σ) (hm : v ≤ 4000) : fX4_ticksOn (E σ) (nI v) = some (nI (cntN (ticksN σ v) 2 - cntN σ 2), E (ticksN σ v)) := by
  simp (disch := omega) only [fX4_ticksOn, count_E h, Nat.add_zero, upN_ne, upN_same, m_lit, m_neg1, m_add, m_mul, m_sub, m_div, m_le, m_lt, m_eq, m_cl, m_gd, m_E, m_upd, m_isz0, m_isz1, Option.bind_some]
  exact ticks8 v _ (by omega) 5000 0 σ h (by omega) (by omega) (gone_mono v σ)
-- hatching
def zer (σ : Nat → Nat) (i m : Nat) : Nat → Nat := fun x => if 40 + 18 * i ≤ x ∧ x < 40 + 18 * i + m then 0 else σ x
def hatN (σ : Nat → Nat) (c f n : Nat) : Nat → Nat := upN (upN (upN (upN (upN (upN (zer σ (σ 0) 18) (40 + 18 * σ 0 + 2) n) (40 + 18 * σ 0 + 5) 4294967295) (40 + 18 * σ 0 + 6) c) (40 + 18 * σ 0 + 7) f) (40 + 18 * σ 0 + 8) n) 0 (σ 0 + 1)
theorem hatch8 (hi : i < 10) (hz : i = σ 0) (c f m : Nat) : ∀ n j, j ≤ 18 → 18 - j < n → fX4_hatchOn_8 (nI c) (nI f) (nI m) n (nI i) (nI j) (E (zer σ i j)) = some (nI i, E (hatN σ c f m)) := by
  intro n
  induction n with
  | zero => intro j _ h; omega
  | succ n ih =>
    intro j hj hn
    rw [fX4_hatchOn_8]
    by_cases h1 : 18 ≤ j
    · have hj2 : j = 18 := by omega
      subst hj2
      simp (disch := omega) only [lay_E, Nat.add_zero, upN_ne, upN_same, m_lit, m_neg1, m_add, m_mul, m_sub, m_div, m_le, m_lt, m_eq, m_cl, m_gd, m_E, m_upd, m_isz0, m_isz1, Option.bind_some]
      rw [if_pos h1]
      have e0 : zer σ i 18 0 = σ 0 := by unfold zer; rw [if_neg (by omega)]
      unfold hatN
      rw [e0, ← hz]
    · simp (disch := omega) only [lay_E, Nat.add_zero, upN_ne, upN_same, m_lit, m_neg1, m_add, m_mul, m_sub, m_div, m_le, m_lt, m_eq, m_cl, m_gd, m_E, m_upd, m_isz0, m_isz1, Option.bind_some]
      rw [if_neg h1]
      have e : upN (zer σ i j) (40 + 18 * i + j) 0 = zer σ i (j + 1) := by
        funext x
        unfold upN zer
        by_cases g : x = 40 + 18 * i + j
        · rw [if_pos g, if_pos (by omega)]
        · rw [if_neg g]
          by_cases g2 : 40 + 18 * i ≤ x ∧ x < 40 + 18 * i + j
          · rw [if_pos g2, if_pos (by omega)]
          · rw [if_neg g2, if_neg (by omega)]
      rw [e]
      exact ih (j + 1) (by omega) (by omega)
theorem hatchOn_E (h0 : σ 0 < 10) (c f m : Nat) : fX4_hatchOn (E σ) (nI c) (nI f) (nI m) = some (nI (σ 0), E (hatN σ c f m)) := by
  have e : zer σ (σ 0) 0 = σ := by
    funext x
    unfold zer
    rw [if_neg (by omega)]
  have := hatch8 (σ := σ) h0 rfl c f m 5000 0 (by omega) (by omega)
  rw [e] at this
  exact this
theorem hat_0 (c f n : Nat) : hatN σ c f n 0 = σ 0 + 1 := by unfold hatN; rw [upN_same]
theorem hat_lo (c f n : Nat) {x : Nat} (hx : x < 40) (h : x ≠ 0) : hatN σ c f n x = σ x := by
  unfold hatN
  rw [upN_ne h, upN_ne (by omega), upN_ne (by omega), upN_ne (by omega), upN_ne (by omega), upN_ne (by omega)]
  unfold zer
  rw [if_neg (by omega)]
theorem hat_j (c f n : Nat) {j : Nat} (hj : j ≠ σ 0) (hw : w < 18) : hatN σ c f n (40 + 18 * j + w) = σ (40 + 18 * j + w) := by
  unfold hatN
  rw [upN_ne (by omega), upN_ne (by omega), upN_ne (by omega), upN_ne (by omega), upN_ne (by omega), upN_ne (by omega)]
  unfold zer
  rw [if_neg (by omega)]
theorem hat_w (c f n : Nat) (hw : w < 18) : hatN σ c f n (40 + 18 * σ 0 + w) = if w = 8 then n else if w = 7 then f else if w = 6 then c else if w = 5 then 4294967295 else if w = 2 then n else 0 := by
  unfold hatN
  rw [upN_ne (by omega)]
  unfold upN zer
  by_cases h8 : w = 8
  · rw [if_pos (by omega), if_pos h8]
  · rw [if_neg (by omega), if_neg h8]
    by_cases h7 : w = 7
    · rw [if_pos (by omega), if_pos h7]
    · rw [if_neg (by omega), if_neg h7]
      by_cases h6 : w = 6
      · rw [if_pos (by omega), if_pos h6]
      · rw [if_neg (by omega), if_neg h6]
        by_cases h5 : w = 5
        · rw [if_pos (by omega), if_pos h5]
        · rw [if_neg (by omega), if_neg h5]
          by_cases h2 : w = 2
          · rw [if_pos (by omega), if_pos h2]
          · rw [if_neg (by omega), if_neg h2, if_pos (by omega)]
theorem hat_WF (h : WF σ) (h0 : σ 0 < 10) {c f n : Nat} (hc : c < 36) (hf : f < 36) (hn1 : 1 ≤ n) (hn : n ≤ 9) : WF (hatN σ c f n) := by
  obtain ⟨a1, a2, a3, a4, a5⟩ := h
  have e1 : hatN σ c f n (40 + 18 * σ 0 + 1) = 0 := by rw [hat_w c f n (by omega)]; rfl
  refine ⟨by rw [hat_0]; omega, by rw [hat_lo _ _ _ (by omega) (by omega)]; exact a2, fun x hx => by rw [hat_lo _ _ _ (by omega) (by omega)]; exact a3 x hx, fun j hj => ?_, ?_⟩
  · rw [hat_0] at hj
    by_cases hji : j = σ 0
    · subst hji
      have e0 : hatN σ c f n (40 + 18 * σ 0) = 0 := by have := hat_w (σ := σ) c f n (w := 0) (by omega); rw [Nat.add_zero] at this; rw [this]; rfl
      unfold CW
      rw [e0, e1, hat_w c f n (w := 8) (by omega), hat_w c f n (w := 7) (by omega), hat_w c f n (w := 6) (by omega), hat_w c f n (w := 2) (by omega), hat_w c f n (w := 3) (by omega)]
      exact ⟨by decide, hn, hn1, hc, hf, by show 0 + n + 0 ≤ n; omega, fun p hp => by omega, fun z => by omega, fun _ => rfl, fun z => by omega, fun _ => hn1⟩
    · exact CW_congr (CW_lies (a4 j (by omega))) (fun w hw => hat_j c f n hji hw) (a4 j (by omega))
  · intro x y p q hx hy hp hq e
    rw [hat_0] at hx hy
    by_cases hxi : x = σ 0
    · rw [hxi, e1] at hp; omega
    · by_cases hyi : y = σ 0
      · rw [hyi, e1] at hq; omega
      · rw [hat_j c f n hxi (by omega)] at hp
        rw [hat_j c f n hyi (by omega)] at hq
        have l := CW_lies (a4 x (by omega))
        have l2 := CW_lies (a4 y (by omega))
        rw [hat_j c f n hxi (by omega), hat_j c f n hyi (by omega)] at e
        exact a5 x y p q (by omega) (by omega) hp hq e
theorem canHatch_t (h0 : σ 0 < 10) {c f n : Nat} (hc : c < 36) (hf : f < 36) (hn1 : 1 ≤ n) (hn : n ≤ 9) : fX4_canHatch (E σ) (nI c) (nI f) (nI n) = some (nI 1) := by
  have t1 : ¬ (nI 1 = nI 0) := by decide
  simp (disch := omega) only [fX4_canHatch, isRoom_t, isLength_t, Nat.add_zero, upN_ne, upN_same, m_lit, m_neg1, m_add, m_mul, m_sub, m_div, m_le, m_lt, m_eq, m_cl, m_gd, m_E, m_upd, m_isz0, m_isz1, Option.bind_some]
  rw [if_neg (by omega), if_neg (by omega), if_neg (by omega), if_neg (by omega)]
theorem canHatch_f {x y z : Int32} (h1 : σ 0 ≤ 10) (h : ∀ c f n : Nat, x = nI c → y = nI f → z = nI n → c < 36 → f < 36 → 1 ≤ n → n ≤ 9 → 10 ≤ σ 0) : fX4_canHatch (E σ) x y z = some (nI 0) := by
  unfold fX4_canHatch
  by_cases gx : ∃ c, c < 36 ∧ x = nI c
  · obtain ⟨c, hc, rfl⟩ := gx
    rw [isRoom_t hc, Option.bind_some, if_neg (by decide)]
    by_cases gy : ∃ c, c < 36 ∧ y = nI c
    · obtain ⟨f, hf, rfl⟩ := gy
      rw [isRoom_t hf, Option.bind_some, if_neg (by decide)]
      by_cases gz : ∃ n, (1 ≤ n ∧ n ≤ 9) ∧ z = nI n
      · obtain ⟨n, ⟨hn1, hn⟩, rfl⟩ := gz
        rw [isLength_t hn1 hn, Option.bind_some, if_neg (by decide)]
        have := h c f n rfl rfl rfl hc hf hn1 hn
        simp (disch := omega) only [Nat.add_zero, upN_ne, upN_same, m_lit, m_neg1, m_add, m_mul, m_sub, m_div, m_le, m_lt, m_eq, m_cl, m_gd, m_E, m_upd, m_isz0, m_isz1, Option.bind_some]
        rw [if_pos this]
      · rw [isLength_f (fun n a b e => gz ⟨n, ⟨a, b⟩, e⟩), Option.bind_some, if_pos (by decide)]; rfl
    · rw [isRoom_f (fun n a e => gy ⟨n, a, e⟩), Option.bind_some, if_pos (by decide)]; rfl
  · rw [isRoom_f (fun n a e => gx ⟨n, a, e⟩), Option.bind_some, if_pos (by decide)]; rfl
-- rule, shut, pull
theorem ruleOn_E : fX4_ruleOn (E σ) (nI v) = some (nI (σ 2), E (upN σ 2 v)) := by
  simp (disch := omega) only [fX4_ruleOn, Nat.add_zero, upN_ne, upN_same, m_lit, m_neg1, m_add, m_mul, m_sub, m_div, m_le, m_lt, m_eq, m_cl, m_gd, m_E, m_upd, m_isz0, m_isz1, Option.bind_some]
theorem rule_WF (h : WF σ) (hv : v ≤ 2) : WF (upN σ 2 v) := by
  obtain ⟨a1, a2, a3, a4, a5⟩ := h
  refine ⟨by rw [upN_ne (by omega)]; exact a1, by rw [upN_same]; exact hv, fun x hx => by rw [upN_ne (by omega)]; exact a3 x hx, fun j hj => ?_, ?_⟩
  · rw [upN_ne (by omega)] at hj
    exact CW_congr (CW_lies (a4 j hj)) (fun w hw => upN_ne (by omega)) (a4 j hj)
  · intro x y p q hx hy hp hq e
    rw [upN_ne (by omega)] at hx hy hp hq
    rw [upN_ne (by omega), upN_ne (by omega)] at e
    exact a5 x y p q hx hy hp hq e
def shS (σ : Nat → Nat) : Nat → Nat → Nat
  | 0, _ => 0
  | n + 1, k => σ (4 + k) + shS σ n (k + 1)
theorem shut4 : ∀ n k a, k ≤ 36 → 36 - k < n → fX4_shutOnes_4 (E σ) n (nI a) (nI k) = some (nI (a + shS σ (36 - k) k)) := by
  intro n
  induction n with
  | zero => intro k a _ h; omega
  | succ n ih =>
    intro k a hk hn
    rw [fX4_shutOnes_4]
    by_cases h1 : 36 ≤ k
    · simp (disch := omega) only [Nat.add_zero, upN_ne, upN_same, m_lit, m_neg1, m_add, m_mul, m_sub, m_div, m_le, m_lt, m_eq, m_cl, m_gd, m_E, m_upd, m_isz0, m_isz1, Option.bind_some]
      rw [if_pos h1, show 36 - k = 0 by omega]
      rfl
    · simp (disch := omega) only [Nat.add_zero, upN_ne, upN_same, m_lit, m_neg1, m_add, m_mul, m_sub, m_div, m_le, m_lt, m_eq, m_cl, m_gd, m_E, m_upd, m_isz0, m_isz1, Option.bind_some]
      rw [if_neg h1, ih (k + 1) _ (by omega) (by omega), show 36 - k = (36 - (k + 1)) + 1 by omega, shS]
      congr 2
      omega
theorem shutOnes_E : fX4_shutOnes (E σ) = some (nI (shS σ 36 0)) := by
  have := shut4 (σ := σ) 5000 0 0 (by omega) (by omega)
  rw [Nat.zero_add] at this
  exact this
theorem shutOn_E (hk : k < 36) (b : Bool) : fX4_shutOn (E σ) (nI k) (nI (bN b)) = some (nI (shS (upN σ (4 + k) (bN b)) 36 0), E (upN σ (4 + k) (bN b))) := by
  simp (disch := omega) only [fX4_shutOn, fX4_shutOn_13, m_bN, Nat.add_zero, upN_ne, upN_same, m_lit, m_neg1, m_add, m_mul, m_sub, m_div, m_le, m_lt, m_eq, m_cl, m_gd, m_E, m_upd, m_isz0, m_isz1, Option.bind_some]
  cases b
  · rw [if_pos rfl, shutOnes_E]; rfl
  · rw [if_neg (by decide), shutOnes_E]; rfl
theorem shut_WF (h : WF σ) (hk : k < 36) (hv : v ≤ 1) : WF (upN σ (4 + k) v) := by
  obtain ⟨a1, a2, a3, a4, a5⟩ := h
  refine ⟨by rw [upN_ne (by omega)]; exact a1, by rw [upN_ne (by omega)]; exact a2, fun x hx => ?_, fun j hj => ?_, ?_⟩
  · by_cases g : x = k
    · rw [g, upN_same]; exact hv
    · rw [upN_ne (by omega)]; exact a3 x hx
  · rw [upN_ne (by omega)] at hj
    exact CW_congr (CW_lies (a4 j hj)) (fun w hw => upN_ne (by omega)) (a4 j hj)
  · intro x y p q hx hy hp hq e
    rw [upN_ne (by omega)] at hx hy hp hq
    rw [upN_ne (by omega), upN_ne (by omega)] at e
    exact a5 x y p q hx hy hp hq e
theorem canShut_E (h : WF σ) (hk : k < 36) (b : Bool) : fX4_canShut (E σ) (nI k) (nI (bN b)) = some (nI (bN (!b || tk σ k == 4294967295))) := by
  have ht := tk_lt (k := k) h
  simp (disch := omega) only [fX4_canShut, fX4_canShut_20, isRoom_t, takenBy_E h hk, m_bN, Nat.add_zero, upN_ne, upN_same, m_lit, m_neg1, m_add, m_mul, m_sub, m_div, m_le, m_lt, m_eq, m_cl, m_gd, m_E, m_upd, m_isz0, m_isz1, Option.bind_some]
  rw [if_neg (by omega)]
  cases b
  · rw [if_pos rfl]; rfl
  · rw [if_neg (by decide)]
    by_cases g : tk σ k = 4294967295
    · rw [if_pos g, beq_iff_eq.mpr g]; rfl
    · rw [if_neg g, beq_eq_false_iff_ne.mpr g]; rfl
theorem canShut_f {x y : Int32} (h : ∀ n, n < 36 → x ≠ nI n) : fX4_canShut (E σ) x y = some (nI 0) := by
  unfold fX4_canShut
  rw [isRoom_f h, Option.bind_some, if_pos (by decide)]; rfl
theorem canPull_E (h : WF σ) (hi : i < σ 0) : fX4_canPull (E σ) (nI i) = some (nI (bN (decide (σ (40 + 18 * i) < 2)))) := by
  have h0 := h.1
  have c1 := (h.2.2.2.1 i hi).1
  simp (disch := omega) only [fX4_canPull, isOne_t, of_E, Nat.add_zero, upN_ne, upN_same, m_lit, m_neg1, m_add, m_mul, m_sub, m_div, m_le, m_lt, m_eq, m_cl, m_gd, m_E, m_upd, m_isz0, m_isz1, Option.bind_some]
  rw [if_neg (by omega)]
  by_cases g : 2 ≤ σ (40 + 18 * i)
  · rw [if_pos g, decide_eq_false (by omega)]; rfl
  · rw [if_neg g, decide_eq_true (by omega)]; rfl
theorem canPull_f {x : Int32} (h0 : σ 0 ≤ 10) (h : ∀ n, n < σ 0 → x ≠ nI n) : fX4_canPull (E σ) x = some (nI 0) := by
  unfold fX4_canPull
  rw [isOne_f h0 h, Option.bind_some, if_pos (by decide)]; rfl
def pulN (σ : Nat → Nat) (i : Nat) : Nat → Nat := upN (upN (upN σ (40 + 18 * i) 3) (40 + 18 * i + 1) 0) (40 + 18 * i + 2) 0
theorem pullOn_E (hi : i < 10) : fX4_pullOn (E σ) (nI i) = some (nI (σ (40 + 18 * i + 1)), E (pulN σ i)) := by
  simp (disch := omega) only [fX4_pullOn, of_E, lay_E, Nat.add_zero, upN_ne, upN_same, m_lit, m_neg1, m_add, m_mul, m_sub, m_div, m_le, m_lt, m_eq, m_cl, m_gd, m_E, m_upd, m_isz0, m_isz1, Option.bind_some]
  rfl
theorem pul_o {x : Nat} (h : x ≠ 40 + 18 * i) (h1 : x ≠ 40 + 18 * i + 1) (h2 : x ≠ 40 + 18 * i + 2) : pulN σ i x = σ x := by
  unfold pulN
  rw [upN_ne h2, upN_ne h1, upN_ne h]
theorem pul_0 : pulN σ i (40 + 18 * i) = 3 := by unfold pulN; simp (disch := omega) only [Nat.add_zero, upN_ne, upN_same, m_lit, m_neg1, m_add, m_mul, m_sub, m_div, m_le, m_lt, m_eq, m_cl, m_gd, m_E, m_upd, m_isz0, m_isz1, Option.bind_some]
theorem pul_1 : pulN σ i (40 + 18 * i + 1) = 0 := by unfold pulN; simp (disch := omega) only [Nat.add_zero, upN_ne, upN_same, m_lit, m_neg1, m_add, m_mul, m_sub, m_div, m_le, m_lt, m_eq, m_cl, m_gd, m_E, m_upd, m_isz0, m_isz1, Option.bind_some]
theorem pul_2 : pulN σ i (40 + 18 * i + 2) = 0 := by unfold pulN; simp (disch := omega) only [Nat.add_zero, upN_ne, upN_same, m_lit, m_neg1, m_add, m_mul, m_sub, m_div, m_le, m_lt, m_eq, m_cl, m_gd, m_E, m_upd, m_isz0, m_isz1, Option.bind_some]
theorem pull_WF (h : WF σ) (hi : i < σ 0) : WF (pulN σ i) := by
  obtain ⟨c1, c2, c3, c4, c5, c6, c7, c8, c9, c10, c11⟩ := h.2.2.2.1 i hi
  refine WF_step (i := i) h (pul_o (by omega) (by omega) (by omega)) (pul_o (by omega) (by omega) (by omega)) (fun x hx => pul_o (by omega) (by omega) (by omega)) (fun j w hj hw => pul_o (by omega) (by omega) (by omega)) ?_ (fun p hp => by rw [pul_1] at hp; omega) (fun p q hp => by rw [pul_1] at hp; omega)
  unfold CW
  rw [pul_0, pul_1, pul_2, pul_o (x := 40 + 18 * i + 8) (by omega) (by omega) (by omega), pul_o (x := 40 + 18 * i + 6) (by omega) (by omega) (by omega), pul_o (x := 40 + 18 * i + 7) (by omega) (by omega) (by omega), pul_o (x := 40 + 18 * i + 3) (by omega) (by omega) (by omega)]
  exact ⟨by omega, c2, c3, c4, c5, by omega, fun p hp => by omega, fun z => by omega, fun _ => rfl, fun _ => rfl, fun z => by omega⟩
end OPS
