/-- what one does in a tick: it waits; its head goes to a room; it eats -/
def waitN (σ : Nat → Nat) (i : Nat) : Nat → Nat := upN (upN σ (40 + 18 * i + 4) (σ (40 + 18 * i + 4) + 1)) 3 (σ 3 + 1)
/-- the rooms move up by one place, m of them, and k is the first -/
def shf (σ : Nat → Nat) (i m k : Nat) : Nat → Nat := fun j => if j = 40 + 18 * i + 9 then k else if 40 + 18 * i + 9 < j ∧ j ≤ 40 + 18 * i + 9 + m then σ (j - 1) else σ j
def outN (τ : Nat → Nat) (i : Nat) : Nat → Nat := if τ (40 + 18 * i + 2) ≤ 0 then τ else upN (upN τ (40 + 18 * i + 2) (τ (40 + 18 * i + 2) - 1)) (40 + 18 * i + 1) (τ (40 + 18 * i + 1) + 1)
def goN (σ : Nat → Nat) (i k : Nat) : Nat → Nat := upN (outN (shf σ i (if 9 ≤ σ (40 + 18 * i + 1) then 8 else σ (40 + 18 * i + 1)) k) i) (40 + 18 * i) 1
def eat2 (σ : Nat → Nat) (i : Nat) : Nat → Nat := if σ (40 + 18 * i + 2) ≤ 0 then upN (upN σ (40 + 18 * i + 3) (σ (40 + 18 * i + 3) + 1)) (40 + 18 * i + 1) (σ (40 + 18 * i + 1) - 1) else upN (upN σ (40 + 18 * i + 3) (σ (40 + 18 * i + 3) + 1)) (40 + 18 * i + 2) (σ (40 + 18 * i + 2) - 1)
def eatN (σ : Nat → Nat) (i : Nat) : Nat → Nat := if eat2 σ i (40 + 18 * i + 1) = 0 then upN (upN (eat2 σ i) (40 + 18 * i) 2) (40 + 18 * i + 5) (σ 1 + 1) else eat2 σ i
def act (σ : Nat → Nat) (i : Nat) : Nat → Nat := if eats σ i = true then eatN σ i else if wants σ i = 4294967295 then σ else if fr σ (wants σ i) = true then goN σ i (wants σ i) else waitN σ i
section AC
variable {σ τ : Nat → Nat} {i k w v : Nat}
theorem waits_E (hi : i < 10) : fX4_waits (E σ) (nI i) = some (E (waitN σ i)) := by
  simp (disch := omega) only [fX4_waits, of_E, lay_E, Nat.add_zero, upN_ne, upN_same, m_lit, m_neg1, m_add, m_mul, m_sub, m_div, m_le, m_lt, m_eq, m_cl, m_gd, m_E, m_upd, m_isz0, m_isz1, Option.bind_some]
  rfl
theorem shf_low {m j : Nat} (h : j < 40 + 18 * i + 9) : shf σ i m k j = σ j := by
  unfold shf
  rw [if_neg (by omega), if_neg (by omega)]
theorem shf_head {m : Nat} : shf σ i m k (40 + 18 * i + 9) = k := by
  unfold shf
  rw [if_pos rfl]
theorem shf_mid {m p : Nat} (h : p + 1 ≤ m) : shf σ i m k (40 + 18 * i + (9 + (p + 1))) = σ (40 + 18 * i + (9 + p)) := by
  unfold shf
  rw [if_neg (by omega), if_pos (by omega)]
  congr 1
theorem shf_up {m j : Nat} (h : 40 + 18 * i + 9 + m < j) : shf σ i m k j = σ j := by
  unfold shf
  rw [if_neg (by omega), if_neg (by omega)]
theorem goes23 (hi : i < 10) (hp : σ (40 + 18 * i + 2) < 1000) : ∀ v n (τ : Nat → Nat), v < n → v ≤ 8 → τ (40 + 18 * i + 2) = σ (40 + 18 * i + 2) → fX4_goes_23 (nI i) (nI k) n (nI v) (E τ) = some (E (outN (shf τ i v k) i)) := by
  intro v
  induction v with
  | zero =>
    intro n τ hn _ ht
    obtain ⟨n, rfl⟩ : ∃ m, n = m + 1 := ⟨n - 1, by omega⟩
    rw [fX4_goes_23]
    have e : shf τ i 0 k = upN τ (40 + 18 * i + 9) k := by
      funext j
      unfold upN shf
      by_cases h : j = 40 + 18 * i + 9
      · rw [if_pos h, if_pos h]
      · rw [if_neg h, if_neg h, if_neg (by omega)]
    rw [e]
    unfold outN
    simp (disch := omega) only [of_E, lay_E, Nat.add_zero, upN_ne, upN_same, m_lit, m_neg1, m_add, m_mul, m_sub, m_div, m_le, m_lt, m_eq, m_cl, m_gd, m_E, m_upd, m_isz0, m_isz1, Option.bind_some]
    rw [if_pos (Nat.le_refl 0)]
    by_cases h2 : τ (40 + 18 * i + 2) ≤ 0
    · rw [if_pos h2, if_pos h2]
    · rw [if_neg h2, if_neg h2]
  | succ v ih =>
    intro n τ hn hv ht
    obtain ⟨n, rfl⟩ : ∃ m, n = m + 1 := ⟨n - 1, by omega⟩
    rw [fX4_goes_23, pk_m1 v]
    simp (disch := omega) only [of_E, lay_E, Nat.add_zero, upN_ne, upN_same, m_lit, m_neg1, m_add, m_mul, m_sub, m_div, m_le, m_lt, m_eq, m_cl, m_gd, m_E, m_upd, m_isz0, m_isz1, Option.bind_some]
    rw [if_neg (by omega), ih n _ (by omega) (by omega) (by rw [upN_ne (by omega)]; exact ht)]
    congr 3
    funext j
    unfold upN shf
    dsimp only
    by_cases h1 : j = 40 + 18 * i + 9
    · rw [if_pos h1, if_pos h1]
    · rw [if_neg h1, if_neg h1]
      by_cases h2 : 40 + 18 * i + 9 < j ∧ j ≤ 40 + 18 * i + 9 + v
      · rw [if_pos h2, if_neg (show ¬ j - 1 = 40 + 18 * i + (9 + (v + 1)) by omega), if_pos (show 40 + 18 * i + 9 < j ∧ j ≤ 40 + 18 * i + 9 + (v + 1) by omega)]
      · rw [if_neg h2]
        by_cases h3 : j = 40 + 18 * i + (9 + (v + 1))
        · rw [if_pos h3, if_pos (by omega)]
          congr 1
          omega
        · rw [if_neg h3, if_neg (by omega)]
theorem goes_E (hi : i < 10) (hl : σ (40 + 18 * i + 1) < 1000) (hp : σ (40 + 18 * i + 2) < 1000) : fX4_goes (E σ) (nI i) (nI k) = some (E (outN (shf σ i (if 9 ≤ σ (40 + 18 * i + 1) then 8 else σ (40 + 18 * i + 1)) k) i)) := by
  simp (disch := omega) only [fX4_goes, fX4_goes_22, of_E, Nat.add_zero, upN_ne, upN_same, m_lit, m_neg1, m_add, m_mul, m_sub, m_div, m_le, m_lt, m_eq, m_cl, m_gd, m_E, m_upd, m_isz0, m_isz1, Option.bind_some]
  by_cases h : 9 ≤ σ (40 + 18 * i + 1)
  · rw [if_pos h, if_pos h]; exact goes23 hi hp 8 5000 σ (by omega) (by omega) rfl
  · rw [if_neg h, if_neg h]; exact goes23 hi hp _ 5000 σ (by omega) (by omega) rfl
theorem eats54_E (hi : i < 10) (hl : τ (40 + 18 * i + 1) < 1000) : fX4_eatsOne_54 (nI i) (E τ) = some (E (if τ (40 + 18 * i + 1) = 0 then upN (upN τ (40 + 18 * i) 2) (40 + 18 * i + 5) (τ 1 + 1) else τ)) := by
  simp (disch := omega) only [fX4_eatsOne_54, of_E, lay_E, Nat.add_zero, upN_ne, upN_same, m_lit, m_neg1, m_add, m_mul, m_sub, m_div, m_le, m_lt, m_eq, m_cl, m_gd, m_E, m_upd, m_isz0, m_isz1, Option.bind_some]
  by_cases h : τ (40 + 18 * i + 1) = 0
  · rw [if_pos h, if_pos h]
  · rw [if_neg h, if_neg h]
theorem eatsOne_E (hi : i < 10) (hl : σ (40 + 18 * i + 1) < 1000) (hl1 : 1 ≤ σ (40 + 18 * i + 1)) (hp : σ (40 + 18 * i + 2) < 1000) : fX4_eatsOne (E σ) (nI i) = some (E (eatN σ i)) := by
  simp (disch := omega) only [fX4_eatsOne, of_E, lay_E, Nat.add_zero, upN_ne, upN_same, m_lit, m_neg1, m_add, m_mul, m_sub, m_div, m_le, m_lt, m_eq, m_cl, m_gd, m_E, m_upd, m_isz0, m_isz1, Option.bind_some]
  unfold eatN eat2
  by_cases h : σ (40 + 18 * i + 2) ≤ 0
  · simp only [if_pos h]
    rw [eats54_E hi (by simp (disch := omega) only [Nat.add_zero, upN_ne, upN_same, m_lit, m_neg1, m_add, m_mul, m_sub, m_div, m_le, m_lt, m_eq, m_cl, m_gd, m_E, m_upd, m_isz0, m_isz1, Option.bind_some]; omega)]
    simp (disch := omega) only [Nat.add_zero, upN_ne, upN_same, m_lit, m_neg1, m_add, m_mul, m_sub, m_div, m_le, m_lt, m_eq, m_cl, m_gd, m_E, m_upd, m_isz0, m_isz1, Option.bind_some]
  · simp only [if_neg h]
    rw [eats54_E hi (by simp (disch := omega) only [Nat.add_zero, upN_ne, upN_same, m_lit, m_neg1, m_add, m_mul, m_sub, m_div, m_le, m_lt, m_eq, m_cl, m_gd, m_E, m_upd, m_isz0, m_isz1, Option.bind_some]; omega)]
    simp (disch := omega) only [Nat.add_zero, upN_ne, upN_same, m_lit, m_neg1, m_add, m_mul, m_sub, m_div, m_le, m_lt, m_eq, m_cl, m_gd, m_E, m_upd, m_isz0, m_isz1, Option.bind_some]
theorem acts_E (h : WF σ) (hi : i < σ 0) : fX4_acts (E σ) (nI i) = some (E (act σ i)) := by
  have h0 := h.1
  obtain ⟨c1, c2, c3, c4, c5, c6, c7, c8, c9, -⟩ := h.2.2.2.1 i hi
  have hw := wants_in h hi
  simp (disch := omega) only [fX4_acts, fX4_acts_51, wants_E h hi, eats_E h hi, m_bN, Nat.add_zero, upN_ne, upN_same, m_lit, m_neg1, m_add, m_mul, m_sub, m_div, m_le, m_lt, m_eq, m_cl, m_gd, m_E, m_upd, m_isz0, m_isz1, Option.bind_some]
  unfold act
  have ft : ¬ (false = true) := by decide
  have tf : ¬ (true = false) := by decide
  cases ge : eats σ i
  · rw [if_pos (rfl : false = false), if_neg ft]
    by_cases gw : wants σ i = 4294967295
    · rw [if_pos gw, if_pos gw, if_pos gw]
    · rw [if_neg gw, if_neg gw, isFree_E h (by omega)]
      simp (disch := omega) only [m_bN, Nat.add_zero, upN_ne, upN_same, m_lit, m_neg1, m_add, m_mul, m_sub, m_div, m_le, m_lt, m_eq, m_cl, m_gd, m_E, m_upd, m_isz0, m_isz1, Option.bind_some]
      cases gf : fr σ (wants σ i)
      · rw [if_pos (rfl : false = false), if_neg ft, if_neg gw, waits_E (by omega)]; rfl
      · rw [if_neg tf, if_pos (rfl : true = true), goes_E (by omega) (by omega) (by omega)]
        simp (disch := omega) only [lay_E, Nat.add_zero, upN_ne, upN_same, m_lit, m_neg1, m_add, m_mul, m_sub, m_div, m_le, m_lt, m_eq, m_cl, m_gd, m_E, m_upd, m_isz0, m_isz1, Option.bind_some]
        rw [if_neg gw]
        rfl
  · rw [if_neg tf, if_pos (rfl : true = true)]
    have g1 : σ (40 + 18 * i) = 1 := by
      simp only [eats, Bool.and_eq_true, beq_iff_eq] at ge
      exact ge.1
    rw [eatsOne_E (by omega) (by omega) (c8 g1) (by omega)]; rfl
end AC
