section LNH
theorem nL_mul (a b : Nat) : nL a * nL b = nL (a * b) := by
  unfold nL
  rw [Int64.ofNat_mul]
theorem nL_add (a b : Nat) : nL a + nL b = nL (a + b) := by
  unfold nL
  rw [Int64.ofNat_add]
theorem nL_sub {a b : Nat} (h : b ≤ a) : nL a - nL b = nL (a - b) := by
  have : nL a = nL (a - b) + nL b := by rw [nL_add, Nat.sub_add_cancel h]
  rw [this, Int64.add_sub_cancel]
theorem nL_i32 (a : Nat) : (nL a).toInt32 = nI a := by
  unfold nL
  exact Int64.toInt32_ofNat'
theorem nL_md {a k : Nat} (ha : a < 9223372036854775808) (h0 : 0 < k) (hk : k < 9223372036854775808) : nL a - nL a / nL k * nL k = nL (a % k) := by
  have h1 := Nat.div_add_mod a k
  have h2 : a / k * k ≤ a := Nat.div_mul_le_self a k
  rw [nL_div ha h0 hk, nL_mul, nL_sub h2]
  congr 1
  rw [Nat.mul_comm] at h1
  omega
end LNH

section LNX
theorem lgc (u v : Int64) : (lg_cmp u v < 0 ↔ u < v) ∧ (0 < lg_cmp u v ↔ v < u) ∧ (lg_cmp u v = 0 ↔ u = v) := by
  unfold lg_cmp
  by_cases h1 : u > v
  · rw [if_pos h1]
    refine ⟨⟨fun h => absurd h (by decide), fun h => absurd (Int64.lt_trans h h1) Int64.lt_irrefl⟩, ⟨fun _ => h1, fun _ => by decide⟩, ⟨fun h => absurd h (by decide), fun h => ?_⟩⟩
    rw [h] at h1; exact absurd h1 Int64.lt_irrefl
  · rw [if_neg h1]
    by_cases h2 : u = v
    · rw [if_pos h2]
      refine ⟨⟨fun h => absurd h (by decide), fun h => ?_⟩, ⟨fun h => absurd h (by decide), fun h => absurd h h1⟩, ⟨fun _ => h2, fun _ => rfl⟩⟩
      rw [h2] at h; exact absurd h Int64.lt_irrefl
    · rw [if_neg h2]
      refine ⟨⟨fun _ => ?_, fun _ => by decide⟩, ⟨fun h => absurd h (by decide), fun h => absurd h h1⟩, ⟨fun h => absurd h (by decide), fun h => absurd h h2⟩⟩
      rcases Int64.lt_or_eq_of_le (Int64.not_lt.mp h1) with h | h
      · exact h
      · exact absurd h h2
theorem nL_le {a b : Nat} (ha : a < 9223372036854775808) (hb : b < 9223372036854775808) : nL a ≤ nL b ↔ a ≤ b := by
  rw [Int64.le_iff_toInt_le, nL_int ha, nL_int hb]
  omega
theorem nL_eq {a b : Nat} (ha : a < 9223372036854775808) (hb : b < 9223372036854775808) : nL a = nL b ↔ a = b := by
  constructor
  · intro h
    have := congrArg Int64.toInt h
    rw [nL_int ha, nL_int hb] at this
    omega
  · intro h; rw [h]
theorem i2l {x : Nat} (hx : x < 2147483648) : (nI x).toInt64 = nL x := by
  apply Int64.toInt_inj.mp
  rw [Int32.toInt_toInt64, nI_toInt hx, nL_int (by omega)]
end LNX
