section SUF
variable {σ τ κ : Nat → Nat} {g h f c n m p : Nat} {la cn us : Int32} {ch : Nat → Int32} {C G sv T B : Nat → Int32} {rf zs ac sp ou : Int32} {mt N jT jO O dy kp ik : Nat → Int32}
theorem sc_8 (hR : Rep 0 κ σ) (hW : WF σ) (hg : g < 1000000) (h1 : g / 100000 = 8) : SC (fX3_succeeds la cn us ch C G sv (E κ) B (nI g)) (fX4_command rf zs ac sp ou mt N (E σ) O dy kp ik 8 (nI (g % 100000))) := by
  have d10 : nI g / 10 = nI (g / 10) := dq (k := 10) hg (by omega) (by omega)
  have c3 : nI g - nI (g / 10) * 10 = nI (g % 10) := by rw [← d10]; exact md (k := 10) (by omega) (by omega) (by omega)
  unfold fX3_succeeds fX4_command
  rw [show nI g / 100000 = nI (g / 100000) from dq (k := 100000) hg (by omega) (by omega), h1, if_neg (show ¬ nI 8 = 1 from by decide), if_neg (show ¬ nI 8 = 2 from by decide), if_neg (show ¬ nI 8 = 3 from by decide), if_neg (show ¬ nI 8 = 4 from by decide), if_neg (show ¬ nI 8 = 5 from by decide), if_neg (show ¬ nI 8 = 6 from by decide), if_neg (show ¬ nI 8 = 7 from by decide), if_pos (show nI 8 = 8 from rfl), if_neg (show ¬ (8 : Int32) = 1 from by decide), if_neg (show ¬ (8 : Int32) = 2 from by decide), if_neg (show ¬ (8 : Int32) = 3 from by decide), if_neg (show ¬ (8 : Int32) = 4 from by decide), if_neg (show ¬ (8 : Int32) = 5 from by decide), if_neg (show ¬ (8 : Int32) = 6 from by decide), if_neg (show ¬ (8 : Int32) = 7 from by decide), if_pos (show (8 : Int32) = 8 from rfl), d10, c3, lowest_c hR hW, ringed_E hW, Option.bind_some, Option.bind_some]
  by_cases z : g / 10 = 80000
  · have z2 : g % 100000 = g % 10 := by omega
    rw [if_pos (show nI (g / 10) = 80000 from by rw [z]; rfl), z2]
    by_cases k : 1 < g % 10
    · rw [if_pos (show 1 < nI (g % 10) from (m_lt (a := 1) (by omega) (by omega)).mpr k), if_pos (show 2 ≤ nI (g % 10) from (m_le (a := 2) (by omega) (by omega)).mpr (by omega))]
      exact ⟨_, _, _, _, _, rfl, rfl, hR, hW⟩
    · rw [if_neg (show ¬ 1 < nI (g % 10) from fun e => k ((m_lt (a := 1) (by omega) (by omega)).mp e)), if_neg (show ¬ 2 ≤ nI (g % 10) from fun e => by have := (m_le (a := 2) (by omega) (by omega)).mp e; omega)]
      have k2 : g % 10 = 0 ∨ g % 10 = 1 := by omega
      by_cases q : nI (rgdN σ) = -1
      · rw [if_pos q, if_pos q]
        rcases k2 with e | e
        · rw [e]; exact ⟨_, _, _, _, _, rfl, rfl, hR, hW⟩
        · rw [e]; exact ⟨_, _, _, _, _, rfl, rfl, hR, hW⟩
      · rw [if_neg q, if_neg q]
        rcases k2 with e | e
        · rw [e]; exact ⟨_, _, _, _, _, rfl, rfl, hR, hW⟩
        · rw [e]; exact ⟨_, _, _, _, _, rfl, rfl, hR, hW⟩
  · rw [if_neg (show ¬ nI (g / 10) = 80000 from fun e => z ((m_eq (b := 80000) (by omega) (by omega)).mp e)), if_pos (show 2 ≤ nI (g % 100000) from (m_le (a := 2) (by omega) (by omega)).mpr (by omega))]
    exact ⟨_, _, _, _, _, rfl, rfl, hR, hW⟩
theorem sc_0 (hR : Rep 0 κ σ) (hW : WF σ) (hg : g < 1000000) (h1 : g / 100000 = 0) : SC (fX3_succeeds la cn us ch C G sv (E κ) B (nI g)) (fX4_command rf zs ac sp ou mt N (E σ) O dy kp ik 0 (nI (g % 100000))) := by
  unfold fX3_succeeds fX4_command
  rw [show nI g / 100000 = nI (g / 100000) from dq (k := 100000) hg (by omega) (by omega), h1]
  exact ⟨_, _, _, _, _, rfl, rfl, hR, hW⟩
end SUF
