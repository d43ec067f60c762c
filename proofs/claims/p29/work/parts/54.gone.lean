section GNE
variable {σ τ κ : Nat → Nat} {d i j k w v x m n : Nat} {la cn us : Int32} {ch : Nat → Int32} {C G sv T B : Nat → Int32} {O : Nat → Int64} {rf zs ac sp ou : Int32} {mt N jT jO dy kp ik : Nat → Int32}
/-- a copy of the reference's row -/
theorem copy_E (σ : Nat → Nat) (T : Nat → Int32) : ∃ σ', fX4_copyState 220 220 (E σ) T 0 0 = some (E σ') ∧ ∀ x, x < 220 → σ' x = σ x := by
  obtain ⟨τ, -, rfl⟩ := E_sur T
  refine ⟨fun x => if x < 220 then σ x else τ x, ?_, fun x hx => if_pos hx⟩
  rw [show (0 : Int32) = nI 0 from rfl, copyState_E 220 220 (E σ) (E τ) (by omega) (by omega) (by omega) (by omega)]
  congr 1
  funext x
  unfold va_cpy E
  dsimp only
  by_cases g : x < 220
  · rw [if_pos (by omega), if_pos g, Nat.zero_add, Nat.sub_zero]
  · rw [if_neg (by omega), if_neg g]
/-- the class's answer about one that may be gone within two hundred ticks -/
theorem until_h (hO : OKS m κ σ) (hm : m ≤ 1000000000) (hi : i < σ 0) : ∃ B', fX3_ticksUntilGone_h la cn us ch (E κ) G sv T B (nI i) = some (nI (untN (gon i) 200 σ 0).1, B') := by
  have h0 := hO.2.1.1
  obtain ⟨κ', m', a1, a2, a3, a4⟩ := ahead_h (la := la) (cn := cn) (us := us) (ch := ch) (G := G) (sv := sv) (T := T) (B := B) hO.1 hO.2.1
  obtain ⟨g1, g2⟩ := gone_in hO.2.1 hO.2.2.1 (by have := hO.2.2.2; omega) hi a1 a4
  have hi2 : i < ticksN σ m' 0 := by rw [ticks_0]; exact hi
  have hw := (ticks_WF m' σ hO.2.1).2.2.2.1 i hi2
  refine ⟨E κ', ?_⟩
  unfold fX3_ticksUntilGone_h
  rw [a2, Option.bind_some]
  dsimp only
  rw [show (0 : Int32) = nI 0 from rfl, number_c (by omega) (by omega), Option.bind_some, a3.nm hi2 (by omega), Nat.add_zero]
  by_cases g : ticksN σ m' (40 + 18 * i) = 2
  · rw [if_pos (show nI (ticksN σ m' (40 + 18 * i)) = 2 from by rw [g]; rfl), show (5 : Int32) = nI 5 from rfl, number_c (by omega) (by omega), Option.bind_some, a3.nm hi2 (by omega), ← g1 g]
    show some (_, _) = some (_, _)
    have e2 : E κ 2 = nI (σ 1) := by
      show nI (κ 2) = nI (σ 1)
      rw [hO.1.2.2.1]; rfl
    rw [e2]
    rfl
  · rw [if_neg (show ¬ nI (ticksN σ m' (40 + 18 * i)) = 2 from fun e => g ((m_eq (b := 2) (by have := hw.1; omega) (by omega)).mp e)), g2 g]
    rfl
end GNE
