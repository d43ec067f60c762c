/-! LONGS as natural numbers -/
section LNG
def nL (n : Nat) : Int64 := Int64.ofNat n
theorem nL_int {a : Nat} (h : a < 9223372036854775808) : (nL a).toInt = a := by
  unfold nL
  rw [Int64.toInt_ofNat_of_lt h]
theorem nL_div {a k : Nat} (ha : a < 9223372036854775808) (h0 : 0 < k) (hk : k < 9223372036854775808) : nL a / nL k = nL (a / k) := by
  have h1 : a / k ≤ a := Nat.div_le_self a k
  apply Int64.toInt_inj.mp
  rw [Int64.toInt_div, nL_int ha, nL_int hk, nL_int (by omega)]
  have e : ((a : Int).tdiv (k : Int)) = ((a / k : Nat) : Int) := by rw [Int.ofNat_tdiv]
  rw [e]
  generalize a / k = q at h1
  exact Int.bmod_eq_of_le (by omega) (by omega)
end LNG
