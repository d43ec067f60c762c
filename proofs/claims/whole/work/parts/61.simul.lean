section SIML
variable {σ τ κ γ ν : Nat → Nat} {v n m p : Nat} {la cn us : Int32} {ch : Nat → Int32} {C G sv T B : Nat → Int32} {rf zs ac sp ou : Int32} {mt N jT jO dy kp ik : Nat → Int32} {Q : Nat → Int64}
theorem sim_loop (hp : p ≤ 60) (h3 : γ 3 = ν 3) : ∀ d j, d = p - j → j ≤ p → ∀ n n' (z : Int64) (κ σ : Nat → Nat), d < n → d < n' → Rep 0 κ σ → WF σ → ∃ r T' T2, fX3_simulate_39 la cn us ch (E γ) G sv B (nI p) n z (nI j) (E κ) = some (.inr (r, T')) ∧ fX4_simulate_45 (E ν) (nI p) n' z (nI j) rf (E σ) = some (r, rf, T2) := by
  intro d
  induction d with
  | zero =>
    intro j hd hj n n' z κ σ hn hn' hR hW
    obtain ⟨n, rfl⟩ : ∃ g, n = g + 1 := ⟨n - 1, by omega⟩
    obtain ⟨n', rfl⟩ : ∃ g, n' = g + 1 := ⟨n' - 1, by omega⟩
    have hle : nI p ≤ nI j := (m_le (by omega) (by omega)).mpr (by omega)
    have e1 : fX0_waitsSoFar (E κ) = some (nI (σ 3)) := by
      show some (nI (κ 3)) = _
      rw [hR.2.2.2.1]
    have e2 : fX0_waitsSoFar (E γ) = some (nI (ν 3)) := by
      show some (nI (γ 3)) = _
      rw [h3]
    rw [fX3_simulate_39, if_pos hle, e1, Option.bind_some, e2, Option.bind_some, show (2 : Int32) = nI 2 from rfl, countWhere_c hR hW (by omega), Option.bind_some, fX4_simulate_45, if_pos hle, show (2 : Int32) = nI 2 from rfl, count_E hW (by omega), Option.bind_some]
    show ∃ r T' T2, _ ∧ (if nI (σ 3) - nI (ν 3) ≤ 999 then fX4_simulate_125 (nI (σ 3) - nI (ν 3)) (1000 * nI (cntN σ 2)) rf (E σ) else fX4_simulate_125 999 (1000 * nI (cntN σ 2)) rf (E σ)) = _
    unfold fX4_simulate_125
    by_cases g : nI (σ 3) - nI (ν 3) ≤ 999
    · rw [if_pos g, if_neg (show ¬ 999 < nI (σ 3) - nI (ν 3) from Int32.not_lt.mpr g)]
      exact ⟨_, _, _, rfl, rfl⟩
    · rw [if_neg g, if_pos (show 999 < nI (σ 3) - nI (ν 3) from Int32.not_le.mp g)]
      exact ⟨_, _, _, rfl, rfl⟩
  | succ d ih =>
    intro j hd hj n n' z κ σ hn hn' hR hW
    obtain ⟨n, rfl⟩ : ∃ g, n = g + 1 := ⟨n - 1, by omega⟩
    obtain ⟨n', rfl⟩ : ∃ g, n' = g + 1 := ⟨n' - 1, by omega⟩
    have hle : ¬ nI p ≤ nI j := fun e => by have := (m_le (by omega) (by omega)).mp e; omega
    rw [fX3_simulate_39, if_neg hle, fX4_simulate_45, if_neg hle]
    obtain ⟨v, hv, ev⟩ := shr (z * 6364136223846793005 + 1442695040888963407).toUInt64
    have e33 : ((33 : Int32).toInt64.toUInt64 &&& Int64.toUInt64 63) = 33 := by decide
    rw [e33, ev]
    obtain ⟨κ', σ', t1, t2, t3, t4⟩ := turn_c (la := la) (cn := cn) (us := us) (ch := ch) (C := E γ) (G := G) (sv := sv) (B := B) hR hW hv
    rw [t1, t2, Option.bind_some, Option.bind_some, s1p]
    exact ih (j + 1) (by omega) (by omega) n n' _ κ' σ' (by omega) (by omega) t3 t4
theorem q_simulate (hO : OKS m κ σ) (z : Int64) (y : Int32) : ∃ e T' O' r T2, fL_simulate la cn us ch (E κ) G sv T B Q z y = some (e, T', O') ∧ fX4_simulate rf zs ac sp ou mt (E σ) jT jO dy kp ik z y = some (r, e, T2) ∧ (e = 0 → O' 0 = r.toInt64) := by
  unfold fL_simulate fX3_simulate fX4_simulate
  rw [show (1 : Int64) = (nI 1).toInt64 from by decide, show (60 : Int64) = (nI 60).toInt64 from by decide, in_eq]
  rcases tic_of y with ⟨p, ⟨hp1, hp⟩, rfl⟩ | hp
  · rw [Option.bind_some, if_pos (show nI 1 ≤ nI p ∧ nI p ≤ nI 60 from ⟨(m_le (by omega) (by omega)).mpr hp1, (m_le (by omega) (by omega)).mpr hp⟩), if_neg (show ¬ nI 1 = 0 from by decide), if_neg (show ¬ nI p < 1 from fun e => by have := (m_lt (b := 1) (by omega) (by omega)).mp e; omega), if_pos (show nI p ≤ 60 from (m_le (b := 60) (by omega) (by omega)).mpr hp)]
    obtain ⟨δ, -, rfl⟩ := E_sur T
    obtain ⟨κ1, c1, c2⟩ := copy_c κ δ
    obtain ⟨σ1, s1, s2⟩ := copy_E σ jT
    have hO1 := hO.congr (κ' := κ1) (σ' := σ1) c2 s2
    obtain ⟨r, T', T2, e1, e2⟩ := sim_loop (la := la) (cn := cn) (us := us) (ch := ch) (G := G) (sv := sv) (B := B) (rf := 0) (γ := κ) (ν := σ) hp hO.1.2.2.2.1 p 0 (by omega) (by omega) 5000 5000 z κ1 σ1 (by omega) (by omega) hO1.1 hO1.2.1
    refine ⟨0, T', vp_updL Q 0 r.toInt64, r, T2, ?_, ?_, fun _ => by simp [vp_updL]⟩
    · rw [c1, Option.bind_some]
      show (fX3_simulate_39 la cn us ch (E κ) G sv B (nI p) 5000 z (nI 0) (E κ1)).bind _ = _
      rw [e1]
      rfl
    · show (some (0, 0)).bind _ = _
      rw [Option.bind_some]
      show (if (0 : Int32) = 0 then (fX4_copyState 220 220 (E σ) jT 0 0).bind _ else _) = _
      rw [if_pos rfl, s1, Option.bind_some]
      exact e2
  · rw [Option.bind_some, if_neg (show ¬ (nI 1 ≤ y ∧ y ≤ nI 60) from rng_f (by omega) (by omega) hp), if_pos (show nI 0 = 0 from rfl)]
    refine ⟨1, T, Q, 0, jT, ?_, rfl, fun e => absurd e (by decide)⟩
    by_cases g : y < 1
    · rw [if_pos g]; rfl
    · rw [if_neg g, if_neg (show ¬ y ≤ 60 from fun e => by
        rcases nI_cases y with ⟨hy, -⟩ | ⟨k, hk, rfl⟩
        · exact g (Int32.lt_trans hy (by decide))
        · have a := (m_le (b := 60) hk (by omega)).mp e
          have b : ¬ k < 1 := fun z => g ((m_lt (b := 1) hk (by omega)).mpr z)
          exact hp k (by omega) a rfl)]
      rfl
end SIML
