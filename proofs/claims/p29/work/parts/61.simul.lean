section SIML
variable {σ τ κ γ ν : Nat → Nat} {v n m p : Nat} {la cn us : Int32} {ch : Nat → Int32} {C G sv T B : Nat → Int32} {rf zs ac sp ou : Int32} {mt N jT jO dy kp ik : Nat → Int32} {Q : Nat → Int64}
theorem sim_loop (hp : p ≤ 60) (h3 : γ 3 = ν 3) : ∀ d j, d = p - j → j ≤ p → ∀ n n' (z : Int64) (κ σ : Nat → Nat), d < n → d < n' → Rep 0 κ σ → WF σ → ∃ r T' T2, fX3_simulate_39 la cn us ch (E γ) G sv B (nI p) n z (nI j) (E κ) = some (.inr (r, T')) ∧ fX4_simulate_45 (E ν) (nI p) n' z (nI j) rf (E σ) = some (r, rf, T2) := by
  intro d
  induction d with
  | zero =>
    intro j hd hj n n' z κ σ hn hn' hR hW
    obtain ⟨n, rfl⟩ : ∃ g, n = g + 1 := ⟨n - 1, by omega⟩
    obtain ⟨n', rfl⟩ : ∃ g, n' = g + 1 := ⟨n' - 1, by omega⟩
    have hle : nI p ≤ nI j := (m_le (by omega) (by omega)).mpr (by omega)
    have e1 : fX0_waitsSoFar (E κ) = some (nI (σ 3)) := by
      show some (nI (κ 3)) = _
      rw [hR.2.2.2.1]
    have e2 : fX0_waitsSoFar (E γ) = some (nI (ν 3)) := by
      show some (nI (γ 3)) = _
      rw [h3]
    rw [fX3_simulate_39, if_pos hle, e1, Option.bind_some, e2, Option.bind_some, show (2 : Int32) = nI 2 from rfl, countWhere_c hR hW (by omega), Option.bind_some, fX4_simulate_45, if_pos hle, show (2 : Int32) = nI 2 from rfl, count_E hW (by omega), Option.bind_some]
    show ∃ r T' T2, _ ∧ (if nI (σ 3) - nI (ν 3) ≤ 999 then fX4_simulate_125 (nI (σ 3) - nI (ν 3)) (1000 * nI (cntN σ 2)) rf (E σ) else fX4_simulate_125 999 (1000 * nI (cntN σ 2)) rf (E σ)) = _
    unfold fX4_simulate_125
    by_cases g : nI (σ 3) - nI (ν 3) ≤ 999
    · rw [if_pos g, if_neg (show ¬ 999 < nI (σ 3) - nI (ν 3) from Int32.not_lt.mpr g)]
      exact ⟨_, _, _, rfl, rfl⟩
    · rw [if_neg g, if_pos (show 999 < nI (σ 3) - nI (ν 3) from Int32.not_le.mp g)]
      exact ⟨_, _, _, rfl, rfl⟩
  | succ d ih =>
    intro j hd hj n n' z κ σ hn hn' hR hW
    obtain ⟨n, rfl⟩ : ∃ g, n = g + 1 := ⟨n - 1, by omega⟩
    obtain ⟨n', rfl⟩ : ∃ g, n' = g + 1 := ⟨n' - 1, by omega⟩
    have hle : ¬ nI p ≤ nI j := fun e => by have := (m_le (by omega) (by omega)).mp e; omega
    rw [fX3_simulate_39, if_neg hle, fX4_simulate_45, if_neg hle]
    obtain ⟨v, hv, ev⟩ := shr (z * 6364136223846793005 + 1442695040888963407).toUInt64
    have e33 : ((33 : Int32).toInt64.toUInt64 &&& Int64.toUInt64 63) = 33 := by decide
    rw [e33, ev]
    obtain ⟨κ', σ', t1, t2, t3, t4⟩ := turn_c (la := la) (cn := cn) (us := us) (ch := ch) (C := E γ) (G := G) (sv := sv) (B := B) hR hW hv
    rw [t1, t2, Option.bind_some, Option.bind_some, s1p]
    exact ih (j + 1) (by omega) (by omega) n n' _ κ' σ' (by omega) (by omega) t3 t4
end SIML
