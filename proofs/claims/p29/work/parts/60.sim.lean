section SIM
variable {σ τ κ : Nat → Nat} {v n m : Nat} {la cn us : Int32} {ch : Nat → Int32} {C G sv T B : Nat → Int32} {rf zs ac sp ou : Int32} {mt N jT jO dy kp ik : Nat → Int32} {Q : Nat → Int64}
theorem shr (x : UInt64) : ∃ v, v < 2147483648 ∧ ((x >>> 33).toInt64).toInt32 = nI v := by
  refine ⟨(x >>> 33).toNat, ?_, ?_⟩
  · have h : (x >>> 33).toNat = x.toNat / 2 ^ 33 := by
      rw [UInt64.toNat_shiftRight]
      show x.toNat >>> (33 % 64) = _
      rw [Nat.shiftRight_eq_div_pow]
    rw [h]
    have := x.toNat_lt
    omega
  · generalize x >>> 33 = y
    apply Int32.toBitVec_inj.mp
    apply BitVec.eq_of_toNat_eq
    show (y.toBitVec.signExtend 32).toNat = (BitVec.ofNat 32 y.toNat).toNat
    rw [BitVec.signExtend_eq_setWidth_of_le _ (by decide), BitVec.toNat_setWidth, BitVec.toNat_ofNat]
    rfl
end SIM
