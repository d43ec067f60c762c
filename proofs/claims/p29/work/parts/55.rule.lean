section BRU
variable {σ τ κ : Nat → Nat} {d i j k r w v x m n : Nat} {la cn us : Int32} {ch : Nat → Int32} {C G sv T B : Nat → Int32} {rf zs ac sp ou : Int32} {mt N jT jO O dy kp ik : Nat → Int32}
theorem unt_in (f : (Nat → Nat) → Bool) (σ : Nat → Nat) : (untN f 200 σ 0).1 = 4294967295 ∨ (untN f 200 σ 0).1 ≤ 200 := by
  rcases unt_spec f 200 σ 0 with ⟨k, k1, _, _, k4⟩ | ⟨_, k2⟩
  · rw [k4]; exact Or.inr (by omega)
  · rw [k2]; exact Or.inl rfl
theorem cntN_le10 (hW : WF σ) : cntN σ w ≤ 10 := by
  have := cnt_le σ w (σ 0) 0
  have := hW.1
  unfold cntN
  omega
end BRU
