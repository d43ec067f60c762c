section SUE
variable {σ τ κ : Nat → Nat} {g h f c n m p : Nat} {la cn us : Int32} {ch : Nat → Int32} {C G sv T B : Nat → Int32} {rf zs ac sp ou : Int32} {mt N jT jO O dy kp ik : Nat → Int32}
theorem sc_sh (hR : Rep 0 κ σ) (hW : WF σ) (hc : c < 100) (t : Bool) : SC (fX3_succeeds_176 (nI (bN t)) (nI c) (E κ) B) (fX4_command_189 (nI c) (nI (bN t)) (nI (bN t)) (nI c) (E σ) O) := by
  unfold fX3_succeeds_176 fX4_command_189
  by_cases hk : c < 36
  · have e3 := setShut_c hR hW hk t
    have b1 : bN t ≤ 1 := by have := bN_lt t; omega
    rw [canShut_E hW hk, Option.bind_some]
    cases gq : (!t || tk σ c == 4294967295)
    · rw [gq, if_neg ff0] at e3
      rw [if_pos (show nI (bN false) = 0 from rfl), e3]
      exact ⟨_, _, _, _, _, rfl, rfl, hR, hW⟩
    · rw [gq, if_pos rfl] at e3
      have W := shut_WF hW hk b1
      have l := shS_le (σ := upN σ (4 + c) (bN t)) 36 0 (fun k hk => W.2.2.1 k (by omega))
      have e211 : ∀ z : Int32, z = nI (bN t) → fX4_command_211 z (nI c) (E σ) O = some (1, E (upN σ (4 + c) (bN t)), O) := by
        intro z hz
        unfold fX4_command_211
        rw [hz, shutOn_E hk, Option.bind_some]
        dsimp only
        rw [if_neg (nI_pos (by omega))]
      rw [if_neg (show ¬ nI (bN true) = 0 from by decide), e3, Option.bind_some]
      dsimp only
      rw [if_neg (show ¬ nI 1 = 0 from by decide)]
      refine ⟨1, _, _, B, O, rfl, ?_, rep_shut hR hW hk b1, W⟩
      cases t
      · rw [if_neg (show ¬ nI (bN false) = 1 from by decide)]
        exact e211 0 rfl
      · rw [if_pos (show nI (bN true) = 1 from rfl)]
        exact e211 1 rfl
  · have kn : ∀ n, n < 36 → nI c ≠ nI n := fun n a e => by have := (m_eq (by omega) (by omega)).mp e; omega
    rw [setShut_f kn, canShut_f kn, Option.bind_some, Option.bind_some, if_pos (show nI 0 = 0 from rfl)]
    exact ⟨_, _, _, _, _, rfl, rfl, hR, hW⟩
theorem sc_4 (hR : Rep 0 κ σ) (hW : WF σ) (hg : g < 1000000) (h1 : g / 100000 = 4) : SC (fX3_succeeds la cn us ch C G sv (E κ) B (nI g)) (fX4_command rf zs ac sp ou mt N (E σ) O dy kp ik 4 (nI (g % 100000))) := by
  have f5 : g % 100000 < 1000000 := by omega
  have z1 : g % 100000 / 1000 = g / 1000 % 100 := by omega
  have z3 : g % 100000 % 1000 = g % 1000 := by omega
  have c1 : nI g / 1000 - nI g / 1000 / 100 * 100 = nI (g / 1000 % 100) := by
    rw [show nI g / 1000 = nI (g / 1000) from dq (k := 1000) hg (by omega) (by omega)]
    exact md (k := 100) (by omega) (by omega) (by omega)
  have c2 : nI g / 10 - nI g / 10 / 100 * 100 = nI (g / 10 % 100) := by
    rw [show nI g / 10 = nI (g / 10) from dq (k := 10) hg (by omega) (by omega)]
    exact md (k := 100) (by omega) (by omega) (by omega)
  have c3 : nI g - nI g / 10 * 10 = nI (g % 10) := md (k := 10) (by omega) (by omega) (by omega)
  have r3 : nI (g % 100000) - nI (g % 100000) / 1000 * 1000 = nI (g % 1000) := by rw [← z3]; exact md (k := 1000) (by omega) (by omega) (by omega)
  have r1 : nI (g % 100000) / 1000 = nI (g / 1000 % 100) := by rw [← z1]; exact dq (k := 1000) f5 (by omega) (by omega)
  unfold fX3_succeeds fX4_command
  rw [show nI g / 100000 = nI (g / 100000) from dq (k := 100000) hg (by omega) (by omega), h1, if_neg (show ¬ nI 4 = 1 from by decide), if_neg (show ¬ nI 4 = 2 from by decide), if_neg (show ¬ nI 4 = 3 from by decide), if_pos (show nI 4 = 4 from rfl), if_neg (show ¬ (4 : Int32) = 1 from by decide), if_neg (show ¬ (4 : Int32) = 2 from by decide), if_neg (show ¬ (4 : Int32) = 3 from by decide), if_pos (show (4 : Int32) = 4 from rfl), c1, c2, c3, r3, r1]
  by_cases z : g / 10 % 100 = 0
  · have z2 : g % 1000 = g % 10 := by omega
    rw [if_pos (show nI (g / 10 % 100) = 0 from by rw [z]; rfl), z2]
    by_cases k : 1 < g % 10
    · rw [if_pos (show 1 < nI (g % 10) from (m_lt (a := 1) (by omega) (by omega)).mpr k), if_pos (show 2 ≤ nI (g % 10) from (m_le (a := 2) (by omega) (by omega)).mpr (by omega))]
      exact ⟨_, _, _, _, _, rfl, rfl, hR, hW⟩
    · rw [if_neg (show ¬ 1 < nI (g % 10) from fun e => k ((m_lt (a := 1) (by omega) (by omega)).mp e)), if_neg (show ¬ 2 ≤ nI (g % 10) from fun e => by have := (m_le (a := 2) (by omega) (by omega)).mp e; omega)]
      by_cases k1 : g % 10 = 1
      · rw [k1, if_pos (show nI 1 = 1 from rfl), if_pos (show nI 1 = 1 from rfl)]
        exact sc_sh hR hW (by omega) true
      · rw [show g % 10 = 0 by omega, if_neg (show ¬ nI 0 = 1 from by decide), if_neg (show ¬ nI 0 = 1 from by decide)]
        exact sc_sh hR hW (by omega) false
  · rw [if_neg (show ¬ nI (g / 10 % 100) = 0 from fun e => z ((m_eq (b := 0) (by omega) (by omega)).mp e)), if_pos (show 2 ≤ nI (g % 1000) from (m_le (a := 2) (by omega) (by omega)).mpr (by omega))]
    exact ⟨_, _, _, _, _, rfl, rfl, hR, hW⟩
end SUE
