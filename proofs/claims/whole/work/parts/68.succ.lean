section SUI
variable {σ τ κ : Nat → Nat} {g h f c n m p : Nat} {la cn us : Int32} {ch : Nat → Int32} {C G sv T B : Nat → Int32} {rf zs ac sp ou : Int32} {mt N jT jO O dy kp ik : Nat → Int32}
theorem sc_7 (hR : Rep 0 κ σ) (hW : WF σ) (hg : g < 1000000) (h1 : g / 100000 = 7) : SC (fX3_succeeds la cn us ch C G sv (E κ) B (nI g)) (fX4_command rf zs ac sp ou mt N (E σ) O dy kp ik 7 (nI (g % 100000))) := by
  have h0 := hW.1
  have f5 : g % 100000 < 1000000 := by omega
  have z1 : g % 100000 / 1000 = g / 1000 % 100 := by omega
  have z3 : g % 100000 % 1000 = g % 1000 := by omega
  have c1 : nI g / 1000 - nI g / 1000 / 100 * 100 = nI (g / 1000 % 100) := by
    rw [show nI g / 1000 = nI (g / 1000) from dq (k := 1000) hg (by omega) (by omega)]
    exact md (k := 100) (by omega) (by omega) (by omega)
  have c2 : nI g / 10 - nI g / 10 / 100 * 100 = nI (g / 10 % 100) := by
    rw [show nI g / 10 = nI (g / 10) from dq (k := 10) hg (by omega) (by omega)]
    exact md (k := 100) (by omega) (by omega) (by omega)
  have c3 : nI g - nI g / 10 * 10 = nI (g % 10) := md (k := 10) (by omega) (by omega) (by omega)
  have r3 : nI (g % 100000) - nI (g % 100000) / 1000 * 1000 = nI (g % 1000) := by rw [← z3]; exact md (k := 1000) (by omega) (by omega) (by omega)
  have r1 : nI (g % 100000) / 1000 = nI (g / 1000 % 100) := by rw [← z1]; exact dq (k := 1000) f5 (by omega) (by omega)
  have no : SC (some (0, E κ, B)) (some (0, E σ, O)) := ⟨_, _, _, _, _, rfl, rfl, hR, hW⟩
  unfold fX3_succeeds fX4_command
  rw [show nI g / 100000 = nI (g / 100000) from dq (k := 100000) hg (by omega) (by omega), h1, if_neg (show ¬ nI 7 = 1 from by decide), if_neg (show ¬ nI 7 = 2 from by decide), if_neg (show ¬ nI 7 = 3 from by decide), if_neg (show ¬ nI 7 = 4 from by decide), if_neg (show ¬ nI 7 = 5 from by decide), if_neg (show ¬ nI 7 = 6 from by decide), if_pos (show nI 7 = 7 from rfl), if_neg (show ¬ (7 : Int32) = 1 from by decide), if_neg (show ¬ (7 : Int32) = 2 from by decide), if_neg (show ¬ (7 : Int32) = 3 from by decide), if_neg (show ¬ (7 : Int32) = 4 from by decide), if_neg (show ¬ (7 : Int32) = 5 from by decide), if_neg (show ¬ (7 : Int32) = 6 from by decide), if_pos (show (7 : Int32) = 7 from rfl), c1, c2, c3, r3, r1]
  by_cases z : g / 10 % 100 = 0
  · have z4 : g % 1000 = g % 10 := by omega
    rw [if_pos (show nI (g / 10 % 100) = 0 from by rw [z]; rfl), z4, if_neg (show ¬ 10 ≤ nI (g % 10) from fun e => by have := (m_le (a := 10) (by omega) (by omega)).mp e; omega)]
    by_cases w : g % 10 < σ 0
    · rw [has_t hR hW w, isOne_t h0 w, Option.bind_some, if_neg (show ¬ nI 1 = 0 from by decide)]
      by_cases k : g / 1000 % 100 < 36
      · have hk := tk_lt (k := g / 1000 % 100) hW
        rw [takerOf_c hR k, Option.bind_some, isRoom_t k, Option.bind_some, if_neg (show ¬ nI 1 = 0 from by decide), Option.bind_some, if_neg (show ¬ nI 1 = 0 from by decide), takenBy_E hW k, Option.bind_some]
        by_cases q : nI (tk σ (g / 1000 % 100)) = nI (g % 10)
        · rw [if_pos q, if_pos q]
          exact ⟨_, _, _, _, _, rfl, rfl, hR, hW⟩
        · rw [if_neg q, if_neg q]
          exact no
      · have kn : ∀ n, n < 36 → nI (g / 1000 % 100) ≠ nI n := fun n a e => by have := (m_eq (by omega) (by omega)).mp e; omega
        have et : fX0_takerOf (E κ) (nI (g / 1000 % 100)) = some (nI 4294967295) := by
          unfold fX0_takerOf
          rw [isRoom_cf kn, Option.bind_some, if_pos (show nI 0 = 0 from rfl)]
          rfl
        rw [et, Option.bind_some, isRoom_f kn, Option.bind_some, if_pos (show nI 0 = 0 from rfl), if_neg (show ¬ nI 4294967295 = nI (g % 10) from fun e => by have := (m_eq (by omega) (by omega)).mp e; omega)]
        exact no
    · have wn : ∀ n, n < σ 0 → nI (g % 10) ≠ nI n := fun n hn e => by have := (m_eq (by omega) (by omega)).mp e; omega
      rw [has_f hR hW wn, isOne_f h0 wn, Option.bind_some, if_pos (show nI 0 = 0 from rfl), isRoom_E, Option.bind_some]
      split
      · exact no
      · exact no
  · rw [if_neg (show ¬ nI (g / 10 % 100) = 0 from fun e => z ((m_eq (b := 0) (by omega) (by omega)).mp e)), if_pos (show 10 ≤ nI (g % 1000) from (m_le (a := 10) (by omega) (by omega)).mpr (by omega))]
    exact no
end SUI
