section SUG
variable {σ τ κ : Nat → Nat} {g h f c n m p : Nat} {la cn us : Int32} {ch : Nat → Int32} {C G sv T B : Nat → Int32} {rf zs ac sp ou : Int32} {mt N jT jO O dy kp ik : Nat → Int32}
theorem sc_6 (hR : Rep 0 κ σ) (hW : WF σ) (hg : g < 1000000) (h1 : g / 100000 = 6) : SC (fX3_succeeds la cn us ch C G sv (E κ) B (nI g)) (fX4_command rf zs ac sp ou mt N (E σ) O dy kp ik 6 (nI (g % 100000))) := by
  have h0 := hW.1
  have f5 : g % 100000 < 1000000 := by omega
  have z3 : g % 100000 % 1000 = g % 1000 := by omega
  have c1 : nI g / 1000 - nI g / 1000 / 10 * 10 = nI (g / 1000 % 10) := by
    rw [show nI g / 1000 = nI (g / 1000) from dq (k := 1000) hg (by omega) (by omega)]
    exact md (k := 10) (by omega) (by omega) (by omega)
  have c2 : nI g / 10 - nI g / 10 / 100 * 100 = nI (g / 10 % 100) := by
    rw [show nI g / 10 = nI (g / 10) from dq (k := 10) hg (by omega) (by omega)]
    exact md (k := 100) (by omega) (by omega) (by omega)
  have c3 : nI g - nI g / 10 * 10 = nI (g % 10) := md (k := 10) (by omega) (by omega) (by omega)
  have c4 : nI g / 10000 = nI (g / 10000) := dq (k := 10000) hg (by omega) (by omega)
  have r3 : nI (g % 100000) - nI (g % 100000) / 1000 * 1000 = nI (g % 1000) := by rw [← z3]; exact md (k := 1000) (by omega) (by omega) (by omega)
  have r1 : nI (g % 100000) / 1000 = nI (g % 100000 / 1000) := dq (k := 1000) f5 (by omega) (by omega)
  unfold fX3_succeeds fX4_command
  rw [show nI g / 100000 = nI (g / 100000) from dq (k := 100000) hg (by omega) (by omega), h1, if_neg (show ¬ nI 6 = 1 from by decide), if_neg (show ¬ nI 6 = 2 from by decide), if_neg (show ¬ nI 6 = 3 from by decide), if_neg (show ¬ nI 6 = 4 from by decide), if_neg (show ¬ nI 6 = 5 from by decide), if_pos (show nI 6 = 6 from rfl), if_neg (show ¬ (6 : Int32) = 1 from by decide), if_neg (show ¬ (6 : Int32) = 2 from by decide), if_neg (show ¬ (6 : Int32) = 3 from by decide), if_neg (show ¬ (6 : Int32) = 4 from by decide), if_neg (show ¬ (6 : Int32) = 5 from by decide), if_pos (show (6 : Int32) = 6 from rfl), c4, c1, c2, c3, r3, r1]
  have no : SC (some (0, E κ, B)) (some (0, E σ, O)) := ⟨_, _, _, _, _, rfl, rfl, hR, hW⟩
  by_cases z : g / 10000 = 60
  · have z2 : g % 100000 / 1000 = g / 1000 % 10 := by omega
    rw [if_pos (show nI (g / 10000) = 60 from by rw [z]; rfl), z2, if_neg (show ¬ 10 ≤ nI (g / 1000 % 10) from fun e => by have := (m_le (a := 10) (by omega) (by omega)).mp e; omega)]
    by_cases k : g / 10 % 100 = 0
    · have z4 : g % 1000 = g % 10 := by omega
      rw [if_pos (show nI (g / 10 % 100) = 0 from by rw [k]; rfl), z4, isWhere_c hR hW (by omega) (by omega), Option.bind_some]
      by_cases q : 4 ≤ g % 10
      · rw [if_pos (show 4 ≤ nI (g % 10) from (m_le (a := 4) (by omega) (by omega)).mpr q)]
        have e : (decide (g / 1000 % 10 < σ 0) && σ (40 + 18 * (g / 1000 % 10)) == g % 10) = false := by
          by_cases w : g / 1000 % 10 < σ 0
          · have := (hW.2.2.2.1 _ w).1
            rw [beq_eq_false_iff_ne.mpr (by omega), Bool.and_false]
          · rw [decide_eq_false w, Bool.false_and]
        rw [e, if_pos (show nI (bN false) = 0 from rfl)]
        exact no
      · rw [if_neg (show ¬ 4 ≤ nI (g % 10) from fun e => q ((m_le (a := 4) (by omega) (by omega)).mp e))]
        by_cases w : g / 1000 % 10 < σ 0
        · have := (hW.2.2.2.1 _ w).1
          rw [isOne_t h0 w, Option.bind_some, if_neg (show ¬ nI 1 = 0 from by decide), isIn_E (by omega) (by omega) (by omega), Option.bind_some, decide_eq_true w, Bool.true_and]
          cases σ (40 + 18 * (g / 1000 % 10)) == g % 10
          · rw [if_pos (show nI (bN false) = 0 from rfl), if_pos (show nI (bN false) = 0 from rfl)]
            exact no
          · rw [if_neg (show ¬ nI (bN true) = 0 from by decide), if_neg (show ¬ nI (bN true) = 0 from by decide)]
            exact ⟨_, _, _, _, _, rfl, rfl, hR, hW⟩
        · rw [isOne_f h0 (fun n hn e => by have := (m_eq (by omega) (by omega)).mp e; omega), Option.bind_some, if_pos (show nI 0 = 0 from rfl), decide_eq_false w, Bool.false_and, if_pos (show nI (bN false) = 0 from rfl)]
          exact no
    · rw [if_neg (show ¬ nI (g / 10 % 100) = 0 from fun e => k ((m_eq (b := 0) (by omega) (by omega)).mp e)), if_pos (show 4 ≤ nI (g % 1000) from (m_le (a := 4) (by omega) (by omega)).mpr (by omega))]
      exact no
  · rw [if_neg (show ¬ nI (g / 10000) = 60 from fun e => z ((m_eq (b := 60) (by omega) (by omega)).mp e)), if_pos (show 10 ≤ nI (g % 100000 / 1000) from (m_le (a := 10) (by omega) (by omega)).mpr (by omega))]
    exact no
end SUG
