/-! SETS of caterpillars as bits; bestPull -/
def lowS (b : Nat → Bool) : Nat → Nat
  | 0 => 0
  | n + 1 => lowS b n + bN (b n) * 2 ^ n
def bS (b : Nat → Bool) : Nat → Nat → Nat
  | 0, _ => 0
  | n + 1, k => bN (b k) + 2 * bS b n (k + 1)
def pS (b : Nat → Bool) : Nat → Nat → Nat
  | 0, _ => 0
  | n + 1, k => bN (b k) + pS b n (k + 1)
def pcN : Nat → Nat → Nat
  | 0, _ => 0
  | n + 1, s => s % 2 + pcN n (s / 2)
theorem pc_b (b : Nat → Bool) : ∀ n k, pcN n (bS b n k) = pS b n k := by
  intro n
  induction n with
  | zero => intro k; rfl
  | succ n ih =>
    intro k
    have hb := bN_lt (b k)
    rw [pcN, bS, pS, show (bN (b k) + 2 * bS b n (k + 1)) % 2 = bN (b k) by omega, show (bN (b k) + 2 * bS b n (k + 1)) / 2 = bS b n (k + 1) by omega, ih]
theorem bit_b (b : Nat → Bool) : ∀ i n k, i < n → bS b n k / 2 ^ i % 2 = bN (b (k + i)) := by
  intro i
  induction i with
  | zero =>
    intro n k h
    obtain ⟨n, rfl⟩ : ∃ g, n = g + 1 := ⟨n - 1, by omega⟩
    have hb := bN_lt (b k)
    rw [bS, Nat.pow_zero, Nat.div_one]
    show (bN (b k) + 2 * bS b n (k + 1)) % 2 = bN (b k)
    omega
  | succ i ih =>
    intro n k h
    obtain ⟨n, rfl⟩ : ∃ g, n = g + 1 := ⟨n - 1, by omega⟩
    have hb := bN_lt (b k)
    rw [bS, Nat.pow_succ, Nat.mul_comm (2 ^ i) 2, ← Nat.div_div_eq_div_mul, show (bN (b k) + 2 * bS b n (k + 1)) / 2 = bS b n (k + 1) by omega, ih n (k + 1) (by omega), show k + 1 + i = k + (i + 1) by omega]
theorem low_b (b : Nat → Bool) : lowS b 10 = bS b 10 0 := by
  simp only [lowS, bS, Nat.zero_add, Nat.reduceAdd]
  omega
theorem low_lt (b : Nat → Bool) : ∀ n, lowS b n < 2 ^ n := by
  intro n
  induction n with
  | zero => exact Nat.one_pos
  | succ n ih =>
    have hb := bN_lt (b n)
    rw [lowS, Nat.pow_succ]
    have : bN (b n) * 2 ^ n ≤ 1 * 2 ^ n := Nat.mul_le_mul_right _ (by omega)
    omega
theorem or_c : ∀ v, v < 10 → ∀ a, a < 2 ^ v → (nI a ||| (1 <<< (nI v &&& 31)) : Int32) = nI (a + 1 * 2 ^ v) := by decide +kernel
theorem others_c : ∀ i, i < 10 → ∀ s, s < 1024 → fX3_othersIn (nI s) (nI i) = some (nI (pcN 10 s - s / 2 ^ i % 2)) := by decide +kernel
