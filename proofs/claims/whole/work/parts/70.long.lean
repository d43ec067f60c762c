section LNH
theorem nL_mul (a b : Nat) : nL a * nL b = nL (a * b) := by
  unfold nL
  rw [Int64.ofNat_mul]
theorem nL_add (a b : Nat) : nL a + nL b = nL (a + b) := by
  unfold nL
  rw [Int64.ofNat_add]
theorem nL_sub {a b : Nat} (h : b ≤ a) : nL a - nL b = nL (a - b) := by
  have : nL a = nL (a - b) + nL b := by rw [nL_add, Nat.sub_add_cancel h]
  rw [this, Int64.add_sub_cancel]
theorem nL_i32 (a : Nat) : (nL a).toInt32 = nI a := by
  unfold nL
  exact Int64.toInt32_ofNat'
theorem nL_md {a k : Nat} (ha : a < 9223372036854775808) (h0 : 0 < k) (hk : k < 9223372036854775808) : nL a - nL a / nL k * nL k = nL (a % k) := by
  have h1 := Nat.div_add_mod a k
  have h2 : a / k * k ≤ a := Nat.div_mul_le_self a k
  rw [nL_div ha h0 hk, nL_mul, nL_sub h2]
  congr 1
  rw [Nat.mul_comm] at h1
  omega
end LNH
