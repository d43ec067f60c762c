section SUD
variable {σ τ κ : Nat → Nat} {g h f c n m p : Nat} {la cn us : Int32} {ch : Nat → Int32} {C G sv T B : Nat → Int32} {rf zs ac sp ou : Int32} {mt N jT jO O dy kp ik : Nat → Int32}
theorem sc_3 (hR : Rep 0 κ σ) (hW : WF σ) (hg : g < 1000000) (h1 : g / 100000 = 3) : SC (fX3_succeeds la cn us ch C G sv (E κ) B (nI g)) (fX4_command rf zs ac sp ou mt N (E σ) O dy kp ik 3 (nI (g % 100000))) := by
  have d10 : nI g / 10 = nI (g / 10) := dq (k := 10) hg (by omega) (by omega)
  have c3 : nI g - nI (g / 10) * 10 = nI (g % 10) := by rw [← d10]; exact md (k := 10) (by omega) (by omega) (by omega)
  unfold fX3_succeeds fX4_command
  rw [show nI g / 100000 = nI (g / 100000) from dq (k := 100000) hg (by omega) (by omega), h1, if_neg (show ¬ nI 3 = 1 from by decide), if_neg (show ¬ nI 3 = 2 from by decide), if_pos (show nI 3 = 3 from rfl), if_neg (show ¬ (3 : Int32) = 1 from by decide), if_neg (show ¬ (3 : Int32) = 2 from by decide), if_pos (show (3 : Int32) = 3 from rfl), d10, c3]
  by_cases z : g / 10 = 30000
  · have z2 : g % 100000 = g % 10 := by omega
    rw [if_pos (show nI (g / 10) = 30000 from by rw [z]; rfl), z2]
    by_cases k : g % 10 ≤ 2
    · rw [if_neg (show ¬ 3 ≤ nI (g % 10) from fun e => by have := (m_le (a := 3) (by omega) (by omega)).mp e; omega), setRule_t k, ruleOn_E, Option.bind_some, Option.bind_some]
      dsimp only
      have := hW.2.1
      rw [if_neg (show ¬ nI 1 = 0 from by decide), if_neg (nI_pos (by omega))]
      exact ⟨_, _, _, _, _, rfl, rfl, rep_rule hR hW k, rule_WF hW k⟩
    · rw [if_pos (show 3 ≤ nI (g % 10) from (m_le (a := 3) (by omega) (by omega)).mpr (by omega)), setRule_f (fun n hn e => by have := (m_eq (by omega) (by omega)).mp e; omega)]
      exact ⟨_, _, _, _, _, rfl, rfl, hR, hW⟩
  · rw [if_neg (show ¬ nI (g / 10) = 30000 from fun e => z ((m_eq (b := 30000) (by omega) (by omega)).mp e)), if_pos (show 3 ≤ nI (g % 100000) from (m_le (a := 3) (by omega) (by omega)).mpr (by omega))]
    exact ⟨_, _, _, _, _, rfl, rfl, hR, hW⟩
theorem sc_5 (hR : Rep 0 κ σ) (hW : WF σ) (hg : g < 1000000) (h1 : g / 100000 = 5) : SC (fX3_succeeds la cn us ch C G sv (E κ) B (nI g)) (fX4_command rf zs ac sp ou mt N (E σ) O dy kp ik 5 (nI (g % 100000))) := by
  have d10 : nI g / 10 = nI (g / 10) := dq (k := 10) hg (by omega) (by omega)
  have c3 : nI g - nI (g / 10) * 10 = nI (g % 10) := by rw [← d10]; exact md (k := 10) (by omega) (by omega) (by omega)
  unfold fX3_succeeds fX4_command
  rw [show nI g / 100000 = nI (g / 100000) from dq (k := 100000) hg (by omega) (by omega), h1, if_neg (show ¬ nI 5 = 1 from by decide), if_neg (show ¬ nI 5 = 2 from by decide), if_neg (show ¬ nI 5 = 3 from by decide), if_neg (show ¬ nI 5 = 4 from by decide), if_pos (show nI 5 = 5 from rfl), if_neg (show ¬ (5 : Int32) = 1 from by decide), if_neg (show ¬ (5 : Int32) = 2 from by decide), if_neg (show ¬ (5 : Int32) = 3 from by decide), if_neg (show ¬ (5 : Int32) = 4 from by decide), if_pos (show (5 : Int32) = 5 from rfl), d10, c3]
  by_cases z : g / 10 = 50000
  · have z2 : g % 100000 = g % 10 := by omega
    rw [if_pos (show nI (g / 10) = 50000 from by rw [z]; rfl), z2, if_neg (show ¬ 10 ≤ nI (g % 10) from fun e => by have := (m_le (a := 10) (by omega) (by omega)).mp e; omega)]
    by_cases hu : uw σ (g % 10) = true
    · have hlt := uw_lt hu
      obtain ⟨κ', t1, t2⟩ := pullOut_t hR hW hlt.1 hlt.2
      have l := CW_lies (hW.2.2.2.1 _ hlt.1)
      rw [t1, canPull_E hW hlt.1, Option.bind_some, Option.bind_some, decide_eq_true (show σ (40 + 18 * (g % 10)) < 2 by omega), if_neg (show ¬ nI (bN true) = 0 from by decide), pullOn_E (by omega), Option.bind_some]
      dsimp only
      rw [if_neg (show ¬ nI 1 = 0 from by decide), if_neg (nI_pos (by omega))]
      exact ⟨_, _, _, _, _, rfl, rfl, t2, pull_WF hW hlt.1⟩
    · have hu2 : uw σ (g % 10) = false := by simpa using hu
      have ec : fX4_canPull (E σ) (nI (g % 10)) = some (nI 0) := by
        by_cases z : g % 10 < σ 0
        · rw [canPull_E hW z, decide_eq_false (show ¬ σ (40 + 18 * (g % 10)) < 2 from fun y => by simp [uw, z, y] at hu2)]; rfl
        · exact canPull_f hW.1 (fun n hn e => by have := hW.1; have := (m_eq (by omega) (by omega)).mp e; omega)
      rw [pullOut_f hR hW (by omega) hu2, ec, Option.bind_some, Option.bind_some]
      dsimp only
      rw [if_pos (show nI 0 = 0 from rfl), if_pos (show nI 0 = 0 from rfl)]
      exact ⟨_, _, _, _, _, rfl, rfl, hR, hW⟩
  · rw [if_neg (show ¬ nI (g / 10) = 50000 from fun e => z ((m_eq (b := 50000) (by omega) (by omega)).mp e)), if_pos (show 10 ≤ nI (g % 100000) from (m_le (a := 10) (by omega) (by omega)).mpr (by omega))]
    exact ⟨_, _, _, _, _, rfl, rfl, hR, hW⟩
end SUD
