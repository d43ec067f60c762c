section SUH
variable {σ τ κ : Nat → Nat} {g h f c n m p : Nat} {la cn us : Int32} {ch : Nat → Int32} {C G sv T B : Nat → Int32} {rf zs ac sp ou : Int32} {mt N jT jO O dy kp ik : Nat → Int32}
theorem sc_9 (hR : Rep 0 κ σ) (hW : WF σ) (hg : g < 1000000) (h1 : g / 100000 = 9) : SC (fX3_succeeds la cn us ch C G sv (E κ) B (nI g)) (fX4_command rf zs ac sp ou mt N (E σ) O dy kp ik 9 (nI (g % 100000))) := by
  have c1 : nI g / 1000 = nI (g / 1000) := dq (k := 1000) hg (by omega) (by omega)
  have c3 : nI g - nI (g / 1000) * 1000 = nI (g % 1000) := by rw [← c1]; exact md (k := 1000) (by omega) (by omega) (by omega)
  have no : ∀ B' O', SC (some (0, E κ, B')) (some (0, E σ, O')) := fun B' O' => ⟨_, _, _, _, _, rfl, rfl, hR, hW⟩
  unfold fX3_succeeds fX4_command
  rw [show nI g / 100000 = nI (g / 100000) from dq (k := 100000) hg (by omega) (by omega), h1, if_neg (show ¬ nI 9 = 1 from by decide), if_neg (show ¬ nI 9 = 2 from by decide), if_neg (show ¬ nI 9 = 3 from by decide), if_neg (show ¬ nI 9 = 4 from by decide), if_neg (show ¬ nI 9 = 5 from by decide), if_neg (show ¬ nI 9 = 6 from by decide), if_neg (show ¬ nI 9 = 7 from by decide), if_neg (show ¬ nI 9 = 8 from by decide), if_pos (show nI 9 = 9 from rfl), if_neg (show ¬ (9 : Int32) = 1 from by decide), if_neg (show ¬ (9 : Int32) = 2 from by decide), if_neg (show ¬ (9 : Int32) = 3 from by decide), if_neg (show ¬ (9 : Int32) = 4 from by decide), if_neg (show ¬ (9 : Int32) = 5 from by decide), if_neg (show ¬ (9 : Int32) = 6 from by decide), if_neg (show ¬ (9 : Int32) = 7 from by decide), if_neg (show ¬ (9 : Int32) = 8 from by decide), if_pos (show (9 : Int32) = 9 from rfl), c1, c3]
  by_cases z : g / 1000 = 900
  · have z2 : g % 100000 = g % 1000 := by omega
    rw [if_pos (show nI (g / 1000) = 900 from by rw [z]; rfl), z2, if_neg (show ¬ 1000 ≤ nI (g % 1000) from fun e => by have := (m_le (a := 1000) (by omega) (by omega)).mp e; omega)]
    obtain ⟨σ', s1, s2⟩ := copy_E σ O
    obtain ⟨R', W'⟩ := Rep_congr hR hW (κ' := κ) (σ' := σ') (fun _ _ => rfl) s2
    obtain ⟨κ2, m', a1, a2, a3, a4⟩ := ahead_r (la := la) (cn := cn) (us := us) (ch := ch) (C := C) (G := G) (sv := sv) (B := B) R' W'
    unfold fX4_isThroughIn
    rw [a2, Option.bind_some, s1, Option.bind_some, show (-1 : Int32) = nI 4294967295 from by decide, untilT_E W', Option.bind_some]
    dsimp only
    unfold fX3_isWithin
    rw [show (-1 : Int32) = nI 4294967295 from by decide]
    by_cases q : nI (untN thr 200 σ' 0).1 = nI 4294967295
    · rw [if_pos q, if_pos q, Option.bind_some, Option.bind_some, if_pos rfl]
      exact no _ _
    · rw [if_neg q, if_neg q]
      by_cases q2 : nI (g % 1000) < nI (untN thr 200 σ' 0).1
      · rw [if_pos q2, if_pos q2, Option.bind_some, Option.bind_some, if_pos rfl]
        exact no _ _
      · rw [if_neg q2, if_neg q2, Option.bind_some, Option.bind_some, if_neg (show ¬ (1 : Int32) = 0 from by decide)]
        exact ⟨_, _, _, _, _, rfl, rfl, hR, hW⟩
  · rw [if_neg (show ¬ nI (g / 1000) = 900 from fun e => z ((m_eq (b := 900) (by omega) (by omega)).mp e)), if_pos (show 1000 ≤ nI (g % 100000) from (m_le (a := 1000) (by omega) (by omega)).mpr (by omega))]
    exact no _ _
end SUH
