/-- one room nearer, along the row; along the column -/
def alR (a b : Nat) : Nat := if b % 6 = a % 6 then 4294967295 else if a % 6 < b % 6 then a + 1 else a - 1
def alC (a b : Nat) : Nat := if b / 6 = a / 6 then 4294967295 else if a / 6 < b / 6 then a + 6 else a - 6
theorem along_R : ∀ a, a < 36 → ∀ b, b < 36 → fX4_along (nI a) (nI b) (nI 1) = some (nI (alR a b)) := by decide +kernel
theorem along_C : ∀ a, a < 36 → ∀ b, b < 36 → fX4_along (nI a) (nI b) (nI 0) = some (nI (alC a b)) := by decide +kernel
theorem alR_in : ∀ a, a < 36 → ∀ b, b < 36 → alR a b < 36 ∨ alR a b = 4294967295 := by decide +kernel
theorem alC_in : ∀ a, a < 36 → ∀ b, b < 36 → alC a b < 36 ∨ alC a b = 4294967295 := by decide +kernel
theorem al_ne : ∀ a, a < 36 → ∀ b, b < 36 → a ≠ b → ¬ (alR a b = 4294967295 ∧ alC a b = 4294967295) := by decide +kernel
theorem al_eq : ∀ a, a < 36 → alR a a = 4294967295 ∧ alC a a = 4294967295 := by decide +kernel
/-- the next room of one that is out, by its rows and columns -/
def nrB (σ : Nat → Nat) (r c : Nat) : Bool := σ 2 == 1 || (σ 2 == 2 && !(r != 4294967295 && fr σ r) && (c != 4294967295 && fr σ c))
def nrF (σ : Nat → Nat) (r c : Nat) : Nat := if nrB σ r c = true ∧ c ≠ 4294967295 then c else if r = 4294967295 then c else r
def nr (σ : Nat → Nat) (i : Nat) : Nat := nrF σ (alR (σ (40 + 18 * i + 9)) (σ (40 + 18 * i + 7))) (alC (σ (40 + 18 * i + 9)) (σ (40 + 18 * i + 7)))
def eats (σ : Nat → Nat) (i : Nat) : Bool := σ (40 + 18 * i) == 1 && σ (40 + 18 * i + 9) == σ (40 + 18 * i + 7)
def wants (σ : Nat → Nat) (i : Nat) : Nat := if σ (40 + 18 * i) = 0 then σ (40 + 18 * i + 6) else if σ (40 + 18 * i) = 1 ∧ eats σ i = false then nr σ i else 4294967295
section MO2
variable {σ : Nat → Nat} {i k w v : Nat}
theorem nr82 {r c : Nat} (hr : r < 36 ∨ r = 4294967295) (hc : c < 36 ∨ c = 4294967295) (b : Bool) : fX4_nextRoom_82 (nI r) (nI c) (nI (bN b)) = some (nI (if b = true ∧ c ≠ 4294967295 then c else if r = 4294967295 then c else r)) := by
  simp (disch := omega) only [fX4_nextRoom_82, fX4_nextRoom_95, fX4_nextRoom_100, m_bN, Nat.add_zero, upN_ne, upN_same, m_lit, m_neg1, m_add, m_mul, m_sub, m_div, m_le, m_lt, m_eq, m_cl, m_gd, m_E, m_upd, m_isz0, m_isz1, Option.bind_some]
  cases b <;> by_cases h1 : c = 4294967295 <;> by_cases h2 : r = 4294967295 <;> simp [h1, h2]
theorem nextRoom_E (h : WF σ) (hi : i < σ 0) (ho : σ (40 + 18 * i) = 1) : fX4_nextRoom (E σ) (nI i) = some (nI (nr σ i)) := by
  have h0 := h.1
  have h2 := h.2.1
  obtain ⟨c1, c2, c3, c4, c5, c6, c7, c8, -⟩ := h.2.2.2.1 i hi
  have hh : σ (40 + 18 * i + 9) < 36 := c7 0 (by have := c8 ho; omega)
  have hr := alR_in _ hh _ c5
  have hc := alC_in _ hh _ c5
  simp (disch := omega) only [fX4_nextRoom, of_E, along_R, along_C, Nat.add_zero, upN_ne, upN_same, m_lit, m_neg1, m_add, m_mul, m_sub, m_div, m_le, m_lt, m_eq, m_cl, m_gd, m_E, m_upd, m_isz0, m_isz1, Option.bind_some]
  unfold nr nrF
  generalize alR (σ (40 + 18 * i + 9)) (σ (40 + 18 * i + 7)) = r at hr ⊢
  generalize alC (σ (40 + 18 * i + 9)) (σ (40 + 18 * i + 7)) = c at hc ⊢
  have e1 : fX4_nextRoom_77 (nI r) (nI c) = fX4_nextRoom_82 (nI r) (nI c) (nI (bN true)) := rfl
  have e0 : fX4_nextRoom_81 (nI r) (nI c) = fX4_nextRoom_82 (nI r) (nI c) (nI (bN false)) := rfl
  have e62 : fX4_nextRoom_62 (E σ) (nI r) (nI c) = fX4_nextRoom_82 (nI r) (nI c) (nI (bN (c != 4294967295 && fr σ c))) := by
    simp (disch := omega) only [fX4_nextRoom_62, Nat.add_zero, upN_ne, upN_same, m_lit, m_neg1, m_add, m_mul, m_sub, m_div, m_le, m_lt, m_eq, m_cl, m_gd, m_E, m_upd, m_isz0, m_isz1, Option.bind_some]
    by_cases g : c = 4294967295
    · rw [if_pos g, e0, g]; rfl
    · rw [if_neg g, isFree_E h (by omega)]
      simp (disch := omega) only [m_bN, Nat.add_zero, upN_ne, upN_same, m_lit, m_neg1, m_add, m_mul, m_sub, m_div, m_le, m_lt, m_eq, m_cl, m_gd, m_E, m_upd, m_isz0, m_isz1, Option.bind_some]
      have g2 : (c != 4294967295) = true := by simpa using g
      rw [g2]
      cases fr σ c
      · rw [if_pos rfl, e0]; rfl
      · rw [if_neg (by decide), e1]; rfl
  rw [e1, e0, e62]
  have key : ∀ b, nrB σ r c = b → fX4_nextRoom_82 (nI r) (nI c) (nI (bN b)) = some (nI (if nrB σ r c = true ∧ c ≠ 4294967295 then c else if r = 4294967295 then c else r)) := fun b hb => by rw [hb]; exact nr82 hr hc b
  by_cases g1 : σ 2 = 1
  · rw [if_pos g1]; exact key true (by simp [nrB, g1])
  · rw [if_neg g1]
    by_cases g2 : σ 2 = 2
    · rw [if_pos g2]
      by_cases g3 : r = 4294967295
      · rw [if_pos g3]; exact key _ (by simp [nrB, g1, g2, g3])
      · rw [if_neg g3, isFree_E h (by omega)]
        simp (disch := omega) only [m_bN, Nat.add_zero, upN_ne, upN_same, m_lit, m_neg1, m_add, m_mul, m_sub, m_div, m_le, m_lt, m_eq, m_cl, m_gd, m_E, m_upd, m_isz0, m_isz1, Option.bind_some]
        have g4 : (r != 4294967295) = true := by simpa using g3
        cases g5 : fr σ r
        · rw [if_pos rfl]; exact key _ (by simp [nrB, g1, g2, g4, g5])
        · rw [if_neg (by decide)]; exact key false (by simp [nrB, g1, g2, g4, g5])
    · rw [if_neg g2]; exact key false (by simp [nrB, g1, g2])
theorem nr_in (h : WF σ) (hi : i < σ 0) (ho : σ (40 + 18 * i) = 1) (he : eats σ i = false) : nr σ i < 36 := by
  obtain ⟨c1, c2, c3, c4, c5, c6, c7, c8, -⟩ := h.2.2.2.1 i hi
  have hh : σ (40 + 18 * i + 9) < 36 := c7 0 (by have := c8 ho; omega)
  have hr := alR_in _ hh _ c5
  have hc := alC_in _ hh _ c5
  have hne : σ (40 + 18 * i + 9) ≠ σ (40 + 18 * i + 7) := by
    intro e
    simp [eats, ho, e] at he
  have hn := al_ne _ hh _ c5 hne
  unfold nr nrF
  split
  · omega
  · split <;> omega
theorem eats_E (h : WF σ) (hi : i < σ 0) : fX4_eats (E σ) (nI i) = some (nI (bN (eats σ i))) := by
  have h0 := h.1
  obtain ⟨c1, c2, c3, c4, c5, c6, c7, c8, -⟩ := h.2.2.2.1 i hi
  simp (disch := omega) only [fX4_eats, isIn_E, m_bN, Nat.add_zero, upN_ne, upN_same, m_lit, m_neg1, m_add, m_mul, m_sub, m_div, m_le, m_lt, m_eq, m_cl, m_gd, m_E, m_upd, m_isz0, m_isz1, Option.bind_some]
  unfold eats
  by_cases g : σ (40 + 18 * i) = 1
  · have hh : σ (40 + 18 * i + 9) < 36 := c7 0 (by have := c8 g; omega)
    rw [if_neg (by simp [g])]
    simp (disch := omega) only [of_E, Nat.add_zero, upN_ne, upN_same, m_lit, m_neg1, m_add, m_mul, m_sub, m_div, m_le, m_lt, m_eq, m_cl, m_gd, m_E, m_upd, m_isz0, m_isz1, Option.bind_some]
    by_cases g2 : σ (40 + 18 * i + 9) = σ (40 + 18 * i + 7)
    · rw [if_pos g2]; simp [g, g2, bN]
    · rw [if_neg g2]; simp [g, g2, bN]
  · rw [if_pos (by simp [g])]; simp [g, bN]
theorem wants_E (h : WF σ) (hi : i < σ 0) : fX4_wants (E σ) (nI i) = some (nI (wants σ i)) := by
  have h0 := h.1
  obtain ⟨c1, c2, c3, c4, c5, c6, c7, c8, -⟩ := h.2.2.2.1 i hi
  simp (disch := omega) only [fX4_wants, isIn_E, m_bN, eats_E h hi, Nat.add_zero, upN_ne, upN_same, m_lit, m_neg1, m_add, m_mul, m_sub, m_div, m_le, m_lt, m_eq, m_cl, m_gd, m_E, m_upd, m_isz0, m_isz1, Option.bind_some]
  unfold wants
  by_cases g : σ (40 + 18 * i) = 0
  · rw [if_neg (by simp [g]), if_pos g]
    simp (disch := omega) only [of_E, Nat.add_zero, upN_ne, upN_same, m_lit, m_neg1, m_add, m_mul, m_sub, m_div, m_le, m_lt, m_eq, m_cl, m_gd, m_E, m_upd, m_isz0, m_isz1, Option.bind_some]
  · rw [if_pos (by simp [g]), if_neg g]
    by_cases g1 : σ (40 + 18 * i) = 1
    · rw [if_neg (by simp [g1])]
      cases ge : eats σ i
      · rw [if_pos rfl, nextRoom_E h hi g1, if_pos ⟨g1, rfl⟩]; rfl
      · rw [if_neg (by decide), if_neg (fun z => by cases z.2)]
    · rw [if_pos (by simp [g1]), if_neg (fun z => g1 z.1)]
theorem wants_in (h : WF σ) (hi : i < σ 0) : wants σ i < 36 ∨ wants σ i = 4294967295 := by
  obtain ⟨c1, c2, c3, c4, c5, c6, c7, c8, -⟩ := h.2.2.2.1 i hi
  unfold wants
  split
  · exact Or.inl c4
  · split
    · rename_i g
      exact Or.inl (nr_in h hi g.1 g.2)
    · exact Or.inr rfl
/-- for whom it waits -/
def blk (σ : Nat → Nat) (i : Nat) : Nat := if wants σ i = 4294967295 then 4294967295 else tk σ (wants σ i)
theorem blockedBy_E (h : WF σ) (hi : i < σ 0) : fX4_blockedBy (E σ) (nI i) = some (nI (blk σ i)) := by
  have hw := wants_in h hi
  simp (disch := omega) only [fX4_blockedBy, wants_E h hi, Nat.add_zero, upN_ne, upN_same, m_lit, m_neg1, m_add, m_mul, m_sub, m_div, m_le, m_lt, m_eq, m_cl, m_gd, m_E, m_upd, m_isz0, m_isz1, Option.bind_some]
  unfold blk
  by_cases g : wants σ i = 4294967295
  · rw [if_pos g, if_pos g]
  · rw [if_neg g, if_neg g, takenBy_E h (by omega)]; rfl
end MO2
