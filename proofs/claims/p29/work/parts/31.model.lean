/-! THE REFERENCE's row, read as natural numbers -/
def bN (b : Bool) : Nat := if b then 1 else 0
theorem m_bN (b : Bool) : nI (bN b) = nI 0 ↔ b = false := by cases b <;> decide
theorem m_bNi {α : Type} {k : Option α} (b : Bool) : gz (isz (nI (bN b))) k = k := by cases b <;> exact gz_in (by decide)
theorem bN_t {b : Bool} (h : b = true) : nI (bN b) = nI 1 := by rw [h]; rfl
theorem bN_f {b : Bool} (h : b = false) : nI (bN b) = nI 0 := by rw [h]; rfl
theorem bN_lt (b : Bool) : bN b < 2 := by cases b <;> decide
/-- a caterpillar's numbers are in order (d: ticks that the tick counter is behind) -/
def CW (σ : Nat → Nat) (i : Nat) : Prop :=
  σ (40 + 18 * i) ≤ 3 ∧ σ (40 + 18 * i + 8) ≤ 9 ∧ 1 ≤ σ (40 + 18 * i + 8) ∧ σ (40 + 18 * i + 6) < 36 ∧ σ (40 + 18 * i + 7) < 36 ∧ σ (40 + 18 * i + 1) + σ (40 + 18 * i + 2) + σ (40 + 18 * i + 3) ≤ σ (40 + 18 * i + 8) ∧
  (∀ p, p < σ (40 + 18 * i + 1) → σ (40 + 18 * i + (9 + p)) < 36) ∧ (σ (40 + 18 * i) = 1 → 1 ≤ σ (40 + 18 * i + 1)) ∧ (σ (40 + 18 * i) ≠ 1 → σ (40 + 18 * i + 1) = 0) ∧ (2 ≤ σ (40 + 18 * i) → σ (40 + 18 * i + 2) = 0) ∧ (σ (40 + 18 * i) = 0 → 1 ≤ σ (40 + 18 * i + 2))
def DW (σ : Nat → Nat) : Prop := ∀ i j p q, i < σ 0 → j < σ 0 → p < σ (40 + 18 * i + 1) → q < σ (40 + 18 * j + 1) → σ (40 + 18 * i + (9 + p)) = σ (40 + 18 * j + (9 + q)) → i = j ∧ p = q
def WF (σ : Nat → Nat) : Prop := σ 0 ≤ 10 ∧ σ 2 ≤ 2 ∧ (∀ k, k < 36 → σ (4 + k) ≤ 1) ∧ (∀ i, i < σ 0 → CW σ i) ∧ DW σ
section MO
variable {σ : Nat → Nat} {i k w v : Nat}
theorem of_E (hi : i < 10) (hw : w < 18) : fX4_of (E σ) (nI i) (nI w) = some (nI (σ (40 + 18 * i + w))) := by
  simp (disch := omega) only [fX4_of, Nat.add_zero, upN_ne, upN_same, m_lit, m_neg1, m_add, m_mul, m_sub, m_div, m_le, m_lt, m_eq, m_cl, m_gd, m_E, m_upd, m_isz0, m_isz1, Option.bind_some]
theorem lay_E (hi : i < 10) (hw : w < 18) : fX4_lay (E σ) (nI i) (nI w) (nI v) = some (E (upN σ (40 + 18 * i + w) v)) := by
  simp (disch := omega) only [fX4_lay, Nat.add_zero, upN_ne, upN_same, m_lit, m_neg1, m_add, m_mul, m_sub, m_div, m_le, m_lt, m_eq, m_cl, m_gd, m_E, m_upd, m_isz0, m_isz1, Option.bind_some]
theorem isIn_E (hi : i < 10) (hv : σ (40 + 18 * i) < 4294967296) (hw : w < 4294967296) : fX4_isIn (E σ) (nI i) (nI w) = some (nI (bN (σ (40 + 18 * i) == w))) := by
  simp (disch := omega) only [fX4_isIn, of_E, Nat.add_zero, upN_ne, upN_same, m_lit, m_neg1, m_add, m_mul, m_sub, m_div, m_le, m_lt, m_eq, m_cl, m_gd, m_E, m_upd, m_isz0, m_isz1, Option.bind_some]
  by_cases h : σ (40 + 18 * i) = w
  · rw [if_pos h, bN_t (beq_iff_eq.mpr h)]
  · rw [if_neg h, bN_f (beq_eq_false_iff_ne.mpr h)]
theorem isRoom_E (x : Int32) : fX4_isRoom x = some (nI (bN (decide (nI 0 ≤ x ∧ x ≤ nI 35)))) := by
  unfold fX4_isRoom
  rw [show (0 : Int64) = (nI 0).toInt64 from by decide, show (35 : Int64) = (nI 35).toInt64 from by decide, in_eq]
  by_cases h : nI 0 ≤ x ∧ x ≤ nI 35
  · rw [if_pos h]; simp only [Option.bind_some, m_isz1]; simp [bN, h]
  · rw [if_neg h]; simp only [Option.bind_some, m_isz0]; simp only [bN, h, decide_false]; rfl
theorem isLength_E (x : Int32) : fX4_isLength x = some (nI (bN (decide (nI 1 ≤ x ∧ x ≤ nI 9)))) := by
  unfold fX4_isLength
  rw [show (1 : Int64) = (nI 1).toInt64 from by decide, show (9 : Int64) = (nI 9).toInt64 from by decide, in_eq]
  by_cases h : nI 1 ≤ x ∧ x ≤ nI 9
  · rw [if_pos h]; simp only [Option.bind_some, m_isz1]; simp [bN, h]
  · rw [if_neg h]; simp only [Option.bind_some, m_isz0]; simp only [bN, h, decide_false]; rfl
theorem isOne_c (x : Int32) (h0 : σ 0 ≤ 10) : (nI 0 ≤ x ∧ x ≤ nI (σ 0) - nI 1) ↔ ∃ n, n < σ 0 ∧ x = nI n := by
  have e : (nI (σ 0) - nI 1).toInt = (σ 0 : Int) - (1 : Nat) := pk_sub_toInt (by omega) (by omega)
  constructor
  · rintro ⟨h1, h2⟩
    rcases nI_cases x with ⟨h, -⟩ | ⟨n, hn, rfl⟩
    · exact absurd h (Int32.not_lt.mpr h1)
    · refine ⟨n, ?_, rfl⟩
      rw [Int32.le_iff_toInt_le, e, nI_toInt hn] at h2
      omega
  · rintro ⟨n, hn, rfl⟩
    refine ⟨(m_le (by omega) (by omega)).mpr (Nat.zero_le _), ?_⟩
    rw [Int32.le_iff_toInt_le, e, nI_toInt (by omega)]
    omega
theorem isOne_e (x : Int32) : fX4_isOne (E σ) x = some (if nI 0 ≤ x ∧ x ≤ nI (σ 0) - nI 1 then nI 1 else nI 0) := by
  unfold fX4_isOne
  rw [show (E σ 0 - 1 : Int32) = nI (σ 0) - nI 1 from rfl, show (0 : Int64) = (nI 0).toInt64 from by decide, in_eq, Option.bind_some]
  show gz (isz (if nI 0 ≤ x ∧ x ≤ nI (σ 0) - nI 1 then nI 1 else nI 0)) _ = _
  by_cases h : nI 0 ≤ x ∧ x ≤ nI (σ 0) - nI 1
  · rw [if_pos h, m_isz1]
  · rw [if_neg h, m_isz0]
theorem isOne_t (h0 : σ 0 ≤ 10) (hi : i < σ 0) : fX4_isOne (E σ) (nI i) = some (nI 1) := by
  rw [isOne_e, if_pos ((isOne_c _ h0).mpr ⟨i, hi, rfl⟩)]
theorem isOne_f {x : Int32} (h0 : σ 0 ≤ 10) (h : ∀ n, n < σ 0 → x ≠ nI n) : fX4_isOne (E σ) x = some (nI 0) := by
  rw [isOne_e, if_neg (fun z => (isOne_c _ h0).mp z |>.elim fun n hn => h n hn.1 hn.2)]
theorem isRoom_t (hk : k < 36) : fX4_isRoom (nI k) = some (nI 1) := by
  rw [isRoom_E, decide_eq_true (show nI 0 ≤ nI k ∧ nI k ≤ nI 35 from ⟨(m_le (by omega) (by omega)).mpr (by omega), (m_le (by omega) (by omega)).mpr (by omega)⟩)]
  rfl
theorem rng_f {x : Int32} {lo hi : Nat} (hlo : lo < 2147483648) (hh : hi < 2147483648) (h : ∀ n, lo ≤ n → n ≤ hi → x ≠ nI n) : ¬ (nI lo ≤ x ∧ x ≤ nI hi) := by
  rintro ⟨h1, h2⟩
  rcases nI_cases x with ⟨hx, -⟩ | ⟨n, hn, rfl⟩
  · exact absurd (Int32.lt_of_lt_of_le hx (Int32.le_trans (show (0 : Int32) ≤ nI lo from (m_le (a := 0) (by omega) hlo).mpr (Nat.zero_le _)) h1)) Int32.lt_irrefl
  · exact h n ((m_le hlo hn).mp h1) ((m_le hn hh).mp h2) rfl
theorem isRoom_f {x : Int32} (h : ∀ n, n < 36 → x ≠ nI n) : fX4_isRoom x = some (nI 0) := by
  rw [isRoom_E, decide_eq_false (rng_f (by omega) (by omega) fun n _ h2 => h n (by omega))]
  rfl
theorem isLength_t (h1 : 1 ≤ k) (h2 : k ≤ 9) : fX4_isLength (nI k) = some (nI 1) := by
  rw [isLength_E, decide_eq_true (show nI 1 ≤ nI k ∧ nI k ≤ nI 9 from ⟨(m_le (by omega) (by omega)).mpr (by omega), (m_le (by omega) (by omega)).mpr (by omega)⟩)]
  rfl
theorem isLength_f {x : Int32} (h : ∀ n, 1 ≤ n → n ≤ 9 → x ≠ nI n) : fX4_isLength x = some (nI 0) := by
  rw [isLength_E, decide_eq_false (rng_f (by omega) (by omega) h)]
  rfl
/-- it lies in the room -/
def occ (σ : Nat → Nat) (i k : Nat) : Bool := (List.range (σ (40 + 18 * i + 1))).any (fun p => σ (40 + 18 * i + (9 + p)) == k)
theorem occ_iff : occ σ i k = true ↔ ∃ p, p < σ (40 + 18 * i + 1) ∧ σ (40 + 18 * i + (9 + p)) = k := by
  simp [occ]
def tkF (σ : Nat → Nat) (k : Nat) : Nat → Nat → Nat
  | 0, _ => 4294967295
  | n + 1, i => if occ σ i k then i else tkF σ k n (i + 1)
def tk (σ : Nat → Nat) (k : Nat) : Nat := tkF σ k (σ 0) 0
theorem tk11 (k2 : Int32 → Option Int32) (hi : i < 10) (hl : σ (40 + 18 * i + 1) ≤ 9) (hr : ∀ p, p < σ (40 + 18 * i + 1) → σ (40 + 18 * i + (9 + p)) < 36) (hk : k < 36) : ∀ n p, σ (40 + 18 * i + 1) - p < n → p ≤ 9 →
    ((∃ q, p ≤ q ∧ q < σ (40 + 18 * i + 1) ∧ σ (40 + 18 * i + (9 + q)) = k) → fX4_takenBy_11 k2 (E σ) (nI k) n (nI i) (nI p) = some (nI i)) ∧
    ((∀ q, p ≤ q → q < σ (40 + 18 * i + 1) → σ (40 + 18 * i + (9 + q)) ≠ k) → fX4_takenBy_11 k2 (E σ) (nI k) n (nI i) (nI p) = k2 (nI (i + 1))) := by
  intro n
  induction n with
  | zero => intro p h; omega
  | succ n ih =>
    intro p hn hp
    rw [fX4_takenBy_11]
    by_cases h1 : σ (40 + 18 * i + 1) ≤ p
    · simp (disch := omega) only [of_E, Nat.add_zero, upN_ne, upN_same, m_lit, m_neg1, m_add, m_mul, m_sub, m_div, m_le, m_lt, m_eq, m_cl, m_gd, m_E, m_upd, m_isz0, m_isz1, Option.bind_some]
      rw [if_pos h1]
      exact ⟨fun ⟨q, a, b, _⟩ => by omega, fun _ => rfl⟩
    · have hp2 : σ (40 + 18 * i + (9 + p)) < 36 := hr p (by omega)
      simp (disch := omega) only [of_E, Nat.add_zero, upN_ne, upN_same, m_lit, m_neg1, m_add, m_mul, m_sub, m_div, m_le, m_lt, m_eq, m_cl, m_gd, m_E, m_upd, m_isz0, m_isz1, Option.bind_some]
      rw [if_neg h1]
      by_cases h2 : σ (40 + 18 * i + (9 + p)) = k
      · rw [if_pos h2]
        exact ⟨fun _ => rfl, fun h => absurd h2 (h p (by omega) (by omega))⟩
      · rw [if_neg h2]
        obtain ⟨g1, g2⟩ := ih (p + 1) (by omega) (by omega)
        refine ⟨fun ⟨q, a, b, c⟩ => g1 ⟨q, ?_, b, c⟩, fun h => g2 fun q a b => h q (by omega) b⟩
        rcases Nat.lt_or_eq_of_le a with h | h
        · omega
        · exact absurd (h ▸ c) h2
theorem tk2 (h : WF σ) (hk : k < 36) : ∀ n i, i ≤ σ 0 → σ 0 - i < n → fX4_takenBy_2 (E σ) (nI k) n (nI i) = some (nI (tkF σ k (σ 0 - i) i)) := by
  intro n
  induction n with
  | zero => intro i _ h; omega
  | succ n ih =>
    intro i hi hn
    have h0 := h.1
    rw [fX4_takenBy_2]
    by_cases h1 : σ 0 ≤ i
    · simp (disch := omega) only [Nat.add_zero, upN_ne, upN_same, m_lit, m_neg1, m_add, m_mul, m_sub, m_div, m_le, m_lt, m_eq, m_cl, m_gd, m_E, m_upd, m_isz0, m_isz1, Option.bind_some]
      rw [if_pos h1, show σ 0 - i = 0 by omega]
      rfl
    · obtain ⟨c1, c2, c3, c4, c5, c6, c7, c8⟩ := h.2.2.2.1 i (by omega)
      simp (disch := omega) only [Nat.add_zero, upN_ne, upN_same, m_lit, m_neg1, m_add, m_mul, m_sub, m_div, m_le, m_lt, m_eq, m_cl, m_gd, m_E, m_upd, m_isz0, m_isz1, Option.bind_some]
      rw [if_neg h1]
      obtain ⟨g1, g2⟩ := tk11 (fX4_takenBy_2 (E σ) (nI k) n) (i := i) (by omega) (by omega) c7 hk 5000 0 (by omega) (by omega)
      rw [show σ 0 - i = (σ 0 - (i + 1)) + 1 by omega, tkF]
      by_cases ho : occ σ i k = true
      · rw [if_pos ho]
        obtain ⟨q, a, b⟩ := occ_iff.mp ho
        exact g1 ⟨q, Nat.zero_le _, a, b⟩
      · rw [if_neg ho]
        rw [g2 (fun q _ a b => ho (occ_iff.mpr ⟨q, a, b⟩))]
        exact ih (i + 1) (by omega) (by omega)
theorem takenBy_E (h : WF σ) (hk : k < 36) : fX4_takenBy (E σ) (nI k) = some (nI (tk σ k)) := by
  have h0 := h.1
  unfold fX4_takenBy
  exact tk2 h hk 5000 0 (Nat.zero_le _) (by omega)
theorem tkF_cases (σ : Nat → Nat) (k : Nat) : ∀ n i, (tkF σ k n i = 4294967295 ∧ ∀ j, i ≤ j → j < i + n → occ σ j k = false) ∨ (i ≤ tkF σ k n i ∧ tkF σ k n i < i + n ∧ occ σ (tkF σ k n i) k = true) := by
  intro n
  induction n with
  | zero => intro i; exact Or.inl ⟨rfl, fun j a b => by omega⟩
  | succ n ih =>
    intro i
    rw [tkF]
    by_cases ho : occ σ i k = true
    · rw [if_pos ho]; exact Or.inr ⟨Nat.le_refl _, by omega, ho⟩
    · rw [if_neg ho]
      rcases ih (i + 1) with ⟨a, b⟩ | ⟨a, b, c⟩
      · refine Or.inl ⟨a, fun j h1 h2 => ?_⟩
        rcases Nat.lt_or_eq_of_le h1 with h | h
        · exact b j (by omega) (by omega)
        · rw [← h]; exact Bool.eq_false_iff.mpr ho
      · exact Or.inr ⟨by omega, by omega, c⟩
theorem tk_cases (σ : Nat → Nat) (k : Nat) : (tk σ k = 4294967295 ∧ ∀ j, j < σ 0 → occ σ j k = false) ∨ (tk σ k < σ 0 ∧ occ σ (tk σ k) k = true) := by
  rcases tkF_cases σ k (σ 0) 0 with ⟨a, b⟩ | ⟨_, b, c⟩
  · exact Or.inl ⟨a, fun j h => b j (Nat.zero_le _) (by omega)⟩
  · exact Or.inr ⟨by unfold tk; omega, c⟩
theorem tk_of (h : WF σ) (hi : i < σ 0) (ho : occ σ i k = true) : tk σ k = i := by
  rcases tk_cases σ k with ⟨_, b⟩ | ⟨a, b⟩
  · rw [b i hi] at ho; cases ho
  · obtain ⟨p, p1, p2⟩ := occ_iff.mp ho
    obtain ⟨q, q1, q2⟩ := occ_iff.mp b
    exact (h.2.2.2.2 _ _ q p a hi q1 p1 (q2.trans p2.symm)).1
theorem tk_lt (h : WF σ) : tk σ k < 4294967296 := by
  have := h.1
  rcases tk_cases σ k with ⟨a, _⟩ | ⟨a, _⟩
  · rw [a]; omega
  · omega
/-- the room is free -/
def fr (σ : Nat → Nat) (k : Nat) : Bool := σ (4 + k) == 0 && tk σ k == 4294967295
theorem isFree_E (h : WF σ) (hk : k < 36) : fX4_isFree (E σ) (nI k) = some (nI (bN (fr σ k))) := by
  have h1 := h.2.2.1 k hk
  have h2 := tk_lt (k := k) h
  simp (disch := omega) only [fX4_isFree, takenBy_E h hk, Nat.add_zero, upN_ne, upN_same, m_lit, m_neg1, m_add, m_mul, m_sub, m_div, m_le, m_lt, m_eq, m_cl, m_gd, m_E, m_upd, m_isz0, m_isz1, Option.bind_some]
  unfold fr
  by_cases g : σ (4 + k) = 0
  · rw [if_pos g]
    by_cases g2 : tk σ k = 4294967295
    · rw [if_pos g2]; simp [g, g2, bN]
    · rw [if_neg g2]; simp [g, g2, bN]
  · rw [if_neg g]; simp [g, bN]
end MO
