/-! SCRIPTS: one group of six digits -/
section SUC
variable {σ τ κ : Nat → Nat} {g h f c n m p : Nat} {la cn us : Int32} {ch : Nat → Int32} {C G sv T B : Nat → Int32} {rf zs ac sp ou : Int32} {mt N jT jO O dy kp ik : Nat → Int32}
def SC (o q : Option (Int32 × (Nat → Int32) × (Nat → Int32))) : Prop := ∃ r κ' σ' B' O', o = some (r, E κ', B') ∧ q = some (r, E σ', O') ∧ Rep 0 κ' σ' ∧ WF σ'
theorem dq {a k : Nat} (ha : a < 1000000) (h0 : 0 < k) (hk : k < 2147483648) : nI a / nI k = nI (a / k) := m_div (by omega) h0 hk
theorem sc_1 (hR : Rep 0 κ σ) (hW : WF σ) (hg : g < 1000000) (h1 : g / 100000 = 1) : SC (fX3_succeeds la cn us ch C G sv (E κ) B (nI g)) (fX4_command rf zs ac sp ou mt N (E σ) O dy kp ik 1 (nI (g % 100000))) := by
  unfold fX3_succeeds fX4_command
  rw [show nI g / 100000 = nI (g / 100000) from dq (k := 100000) hg (by omega) (by omega), h1, if_pos (show nI 1 = 1 from rfl), if_pos (show (1 : Int32) = 1 from rfl), show nI g / 100 = nI (g / 100) from dq (k := 100) hg (by omega) (by omega), show (1 : Int64) = (nI 1).toInt64 from by decide, show (60 : Int64) = (nI 60).toInt64 from by decide, in_eq, Option.bind_some]
  have em : nI g - nI (g / 100) * 100 = nI (g % 100) := by
    rw [← show nI g / 100 = nI (g / 100) from dq (k := 100) hg (by omega) (by omega)]
    exact md (k := 100) (by omega) (by omega) (by omega)
  rw [em]
  by_cases z : g / 100 = 1000
  · have z2 : g % 100000 = g % 100 := by omega
    rw [if_pos (show nI (g / 100) = 1000 from by rw [z]; rfl), z2]
    by_cases k : 1 ≤ g % 100 ∧ g % 100 ≤ 60
    · obtain ⟨κ', t1, t2⟩ := runTicks_c hR hW k.1 k.2
      rw [if_pos (show nI 1 ≤ nI (g % 100) ∧ nI (g % 100) ≤ nI 60 from ⟨(m_le (by omega) (by omega)).mpr k.1, (m_le (by omega) (by omega)).mpr k.2⟩), if_neg (show ¬ nI 1 = 0 from by decide), t1, ticksOn_E hW (by omega), Option.bind_some, Option.bind_some]
      dsimp only
      have l := cntN_le10 (w := 2) (ticks_WF (g % 100) _ hW)
      rw [if_neg (show ¬ nI 1 = 0 from by decide), if_neg (nI_pos (by omega))]
      exact ⟨_, _, _, _, _, rfl, rfl, t2, ticks_WF _ _ hW⟩
    · have kn : ∀ n, 1 ≤ n → n ≤ 60 → nI (g % 100) ≠ nI n := fun n a b e => k (by have := (m_eq (by omega) (by omega)).mp e; omega)
      rw [if_neg (show ¬ (nI 1 ≤ nI (g % 100) ∧ nI (g % 100) ≤ nI 60) from rng_f (by omega) (by omega) kn), if_pos (show nI 0 = 0 from rfl), runTicks_f kn]
      exact ⟨_, _, _, _, _, rfl, rfl, hR, hW⟩
  · rw [if_neg (show ¬ nI (g / 100) = 1000 from fun e => z ((m_eq (b := 1000) (by omega) (by omega)).mp e)), if_neg (show ¬ (nI 1 ≤ nI (g % 100000) ∧ nI (g % 100000) ≤ nI 60) from fun e => by have := (m_le (by omega) (by omega)).mp e.2; omega), if_pos (show nI 0 = 0 from rfl)]
    exact ⟨_, _, _, _, _, rfl, rfl, hR, hW⟩
theorem sc_2 (hR : Rep 0 κ σ) (hW : WF σ) (hg : g < 1000000) (h1 : g / 100000 = 2) : SC (fX3_succeeds la cn us ch C G sv (E κ) B (nI g)) (fX4_command rf zs ac sp ou mt N (E σ) O dy kp ik 2 (nI (g % 100000))) := by
  have f5 : g % 100000 < 1000000 := by omega
  have z1 : g % 100000 / 1000 = g / 1000 % 100 := by omega
  have z2 : g % 100000 / 10 % 100 = g / 10 % 100 := by omega
  have z3 : g % 100000 % 10 = g % 10 := by omega
  have c1 : nI g / 1000 - nI g / 1000 / 100 * 100 = nI (g / 1000 % 100) := by
    rw [show nI g / 1000 = nI (g / 1000) from dq (k := 1000) hg (by omega) (by omega)]
    exact md (k := 100) (by omega) (by omega) (by omega)
  have c2 : nI g / 10 - nI g / 10 / 100 * 100 = nI (g / 10 % 100) := by
    rw [show nI g / 10 = nI (g / 10) from dq (k := 10) hg (by omega) (by omega)]
    exact md (k := 100) (by omega) (by omega) (by omega)
  have c3 : nI g - nI g / 10 * 10 = nI (g % 10) := md (k := 10) (by omega) (by omega) (by omega)
  have r1 : nI (g % 100000) / 1000 = nI (g / 1000 % 100) := by rw [← z1]; exact dq (k := 1000) f5 (by omega) (by omega)
  have r2 : nI (g % 100000) / 10 - nI (g % 100000) / 10 / 100 * 100 = nI (g / 10 % 100) := by
    rw [← z2, show nI (g % 100000) / 10 = nI (g % 100000 / 10) from dq (k := 10) f5 (by omega) (by omega)]
    exact md (k := 100) (by omega) (by omega) (by omega)
  have r3 : nI (g % 100000) - nI (g % 100000) / 10 * 10 = nI (g % 10) := by rw [← z3]; exact md (k := 10) (by omega) (by omega) (by omega)
  unfold fX3_succeeds fX4_command
  rw [show nI g / 100000 = nI (g / 100000) from dq (k := 100000) hg (by omega) (by omega), h1, if_neg (show ¬ nI 2 = 1 from by decide), if_pos (show nI 2 = 2 from rfl), if_neg (show ¬ (2 : Int32) = 1 from by decide), if_pos (show (2 : Int32) = 2 from rfl), c1, c2, c3, r1, r2, r3]
  by_cases k : g / 1000 % 100 < 36 ∧ g / 10 % 100 < 36 ∧ 1 ≤ g % 10 ∧ σ 0 < 10
  · obtain ⟨t1, t2⟩ := add_t hR hW k.2.2.2 k.1 k.2.1 k.2.2.1 (by omega)
    rw [t1, canHatch_t k.2.2.2 k.1 k.2.1 k.2.2.1 (by omega), Option.bind_some, Option.bind_some, if_neg (show ¬ nI 1 = 0 from by decide), hatchOn_E k.2.2.2, Option.bind_some]
    dsimp only
    rw [if_neg (nI_pos (by omega)), m_isz1]
    exact ⟨_, _, _, _, _, rfl, rfl, t2, hat_WF hW k.2.2.2 k.1 k.2.1 k.2.2.1 (by omega)⟩
  · have h0 := hW.1
    have kb : ∀ c f n : Nat, nI (g / 1000 % 100) = nI c → nI (g / 10 % 100) = nI f → nI (g % 10) = nI n → c < 36 → f < 36 → 1 ≤ n → n ≤ 9 → 10 ≤ σ 0 := fun c f n a b d _ _ _ _ => by
      have := (m_eq (by omega) (by omega)).mp a
      have := (m_eq (by omega) (by omega)).mp b
      have := (m_eq (by omega) (by omega)).mp d
      omega
    rw [add_f hR hW kb, canHatch_f h0 kb, Option.bind_some, Option.bind_some, if_pos (show nI 0 = 0 from rfl)]
    dsimp only
    rw [m_isz0]
    exact ⟨_, _, _, _, _, rfl, rfl, hR, hW⟩
end SUC
