/-! QUERIES: the class's answer is the reference's -/
section QRY
variable {σ τ κ : Nat → Nat} {i k w v x : Nat} {la cn us : Int32} {ch : Nat → Int32} {G sv T B : Nat → Int32} {O : Nat → Int64} {rf zs ac sp ou : Int32} {mt jT jO dy kp ik : Nat → Int32}
def AG (o : Option (Int32 × (Nat → Int64))) (m : Option (Int32 × Int32)) : Prop := ∃ e O' r, o = some (e, O') ∧ m = some (r, e) ∧ (e = 0 → O' 0 = r.toInt64)
theorem one_of (σ : Nat → Nat) (y : Int32) : (∃ n, n < σ 0 ∧ y = nI n) ∨ (∀ n, n < σ 0 → y ≠ nI n) := by
  by_cases h : ∃ n, n < σ 0 ∧ y = nI n
  · exact Or.inl h
  · exact Or.inr fun n hn e => h ⟨n, hn, e⟩
theorem upto (m : Nat) (y : Int32) : (∃ n, n < m ∧ y = nI n) ∨ (∀ n, n < m → y ≠ nI n) := by
  by_cases h : ∃ n, n < m ∧ y = nI n
  · exact Or.inl h
  · exact Or.inr fun n hn e => h ⟨n, hn, e⟩
theorem in_t {m : Nat} (hi : i ≤ m) (hm : m < 2147483648) : fX4_in (nI i).toInt64 0 (nI m).toInt64 = some (nI 1) := by
  rw [show (0 : Int64) = (nI 0).toInt64 from by decide, in_eq, if_pos ⟨(m_le (by omega) (by omega)).mpr (by omega), (m_le (by omega) (by omega)).mpr (by omega)⟩]
theorem in_f {y : Int32} {m : Nat} (hm : m < 2147483648) (h : ∀ n, n ≤ m → y ≠ nI n) : fX4_in y.toInt64 0 (nI m).toInt64 = some (nI 0) := by
  rw [show (0 : Int64) = (nI 0).toInt64 from by decide, in_eq, if_neg (rng_f (by omega) (by omega) fun n _ h2 => h n h2)]
def abv (σ : Nat → Nat) (n : Nat) : Nat := if n = 0 then σ 0 else if n = 5 then σ 1 else if n = 6 then lieS σ else if n = 7 then shS σ 36 0 else if n = 8 then σ 2 else if n = 9 then σ 3 else cntN σ (n - 1)
theorem about30 (hW : WF σ) (hv : v ≤ 9) : ∀ n i, i ≤ σ 0 → σ 0 - i < n → fX4_about_30 (E σ) (nI v) n (nI (sumN (fun i => σ (40 + 18 * i + 1)) i)) (nI i) rf = some (nI (abv σ v), rf) := by
  have h0 := hW.1
  intro n
  induction n with
  | zero => intro i _ h; omega
  | succ n ih =>
    intro i hi hn
    rw [fX4_about_30]
    by_cases h1 : σ 0 ≤ i
    · rw [if_pos (show E σ 0 ≤ nI i from (m_le (by omega) (by omega)).mpr h1)]
      have e : i = σ 0 := by omega
      subst e
      have h01 : ∀ c : Nat, c < 10 → (nI v = nI c ↔ v = c) := fun c hc => m_eq (by omega) (by omega)
      unfold abv lieS
      by_cases g0 : v = 0
      · subst g0; rfl
      rw [if_neg (show ¬ nI v = 0 from fun e => g0 ((h01 0 (by omega)).mp e)), if_neg g0]
      by_cases g5 : v = 5
      · subst g5; rfl
      rw [if_neg (show ¬ nI v = 5 from fun e => g5 ((h01 5 (by omega)).mp e)), if_neg g5]
      by_cases g6 : v = 6
      · subst g6; rfl
      rw [if_neg (show ¬ nI v = 6 from fun e => g6 ((h01 6 (by omega)).mp e)), if_neg g6]
      by_cases g7 : v = 7
      · subst g7
        rw [if_pos (show nI 7 = 7 from rfl), shutOnes_E]; rfl
      rw [if_neg (show ¬ nI v = 7 from fun e => g7 ((h01 7 (by omega)).mp e)), if_neg g7]
      by_cases g8 : v = 8
      · subst g8; rfl
      rw [if_neg (show ¬ nI v = 8 from fun e => g8 ((h01 8 (by omega)).mp e)), if_neg g8]
      by_cases g9 : v = 9
      · subst g9; rfl
      rw [if_neg (show ¬ nI v = 9 from fun e => g9 ((h01 9 (by omega)).mp e)), if_neg g9]
      rw [show (1 : Int32) = nI 1 from rfl, m_sub (show 1 ≤ v by omega), count_E hW (by omega)]
      rfl
    · simp (disch := omega) only [of_E, Nat.add_zero, upN_ne, upN_same, m_lit, m_neg1, m_add, m_mul, m_sub, m_div, m_le, m_lt, m_eq, m_cl, m_gd, m_E, m_upd, m_isz0, m_isz1, Option.bind_some]
      rw [if_neg h1]
      exact ih (i + 1) (by omega) (by omega)
theorem about_c (h : Rep 0 κ σ) (hW : WF σ) (hv : v ≤ 9) : fX3_about la cn us ch (E κ) G sv T B (nI v) = some (.inr (nI (abv σ v))) := by
  have a0 := h.1
  have a1 := h.2.1
  have a2 := h.2.2.1
  have a3 := h.2.2.2.1
  have h01 : ∀ c : Nat, c < 10 → (nI v = nI c ↔ v = c) := fun c hc => m_eq (by omega) (by omega)
  unfold fX3_about
  by_cases g0 : v = 0
  · subst g0; show some (Sum.inr (nI (κ 0))) = some (Sum.inr (nI (σ 0))); rw [a0]
  rw [if_neg (show ¬ nI v = 0 from fun e => g0 ((h01 0 (by omega)).mp e))]
  by_cases g1 : v = 1
  · subst g1; rw [if_pos (show nI 1 = 1 from rfl), show (0 : Int32) = nI 0 from rfl, countWhere_c h hW (by omega)]; rfl
  rw [if_neg (show ¬ nI v = 1 from fun e => g1 ((h01 1 (by omega)).mp e))]
  by_cases g2 : v = 2
  · subst g2; rw [if_pos (show nI 2 = 2 from rfl), show (1 : Int32) = nI 1 from rfl, countWhere_c h hW (by omega)]; rfl
  rw [if_neg (show ¬ nI v = 2 from fun e => g2 ((h01 2 (by omega)).mp e))]
  by_cases g3 : v = 3
  · subst g3; rw [if_pos (show nI 3 = 3 from rfl), show (2 : Int32) = nI 2 from rfl, countWhere_c h hW (by omega)]; rfl
  rw [if_neg (show ¬ nI v = 3 from fun e => g3 ((h01 3 (by omega)).mp e))]
  by_cases g4 : v = 4
  · subst g4; rw [if_pos (show nI 4 = 4 from rfl), show (3 : Int32) = nI 3 from rfl, countWhere_c h hW (by omega)]; rfl
  rw [if_neg (show ¬ nI v = 4 from fun e => g4 ((h01 4 (by omega)).mp e))]
  by_cases g5 : v = 5
  · subst g5; show some (Sum.inr (nI (κ 2))) = some (Sum.inr (nI (σ 1))); rw [a2]; rfl
  rw [if_neg (show ¬ nI v = 5 from fun e => g5 ((h01 5 (by omega)).mp e))]
  by_cases g6 : v = 6
  · subst g6; rw [if_pos (show nI 6 = 6 from rfl), takenRooms_c h hW]; rfl
  rw [if_neg (show ¬ nI v = 6 from fun e => g6 ((h01 6 (by omega)).mp e))]
  by_cases g7 : v = 7
  · subst g7; rw [if_pos (show nI 7 = 7 from rfl), shutRooms_c h hW]; rfl
  rw [if_neg (show ¬ nI v = 7 from fun e => g7 ((h01 7 (by omega)).mp e))]
  by_cases g8 : v = 8
  · subst g8; show some (Sum.inr (nI (κ 1))) = some (Sum.inr (nI (σ 2))); rw [a1]
  rw [if_neg (show ¬ nI v = 8 from fun e => g8 ((h01 8 (by omega)).mp e))]
  by_cases g9 : v = 9
  · subst g9; show some (Sum.inr (nI (κ 3))) = some (Sum.inr (nI (σ 3))); rw [a3]
  omega
theorem lt_f {y : Int32} {m : Nat} (hm : m < 2147483648) (h : ∀ n, n < m → y ≠ nI n) (h0 : ¬ y < 0) : ¬ y < nI m := by
  rcases nI_cases y with ⟨hy, -⟩ | ⟨n, hn, rfl⟩
  · exact absurd hy h0
  · rw [m_lt hn hm]
    intro z
    exact h n z rfl
end QRY
