section SCL
variable {σ τ κ : Nat → Nat} {g j n m p P : Nat} {la cn us : Int32} {ch : Nat → Int32} {C G sv T B : Nat → Int32} {rf zs ac sp ou : Int32} {mt N jT jO O dy kp ik : Nat → Int32} {Q : Nat → Int64}
theorem p6 (k : Nat) (h : k ≤ 3) : 1 ≤ 1000000 ^ k ∧ 1000000 ^ k ≤ 1000000000000000000 := by
  have : k = 0 ∨ k = 1 ∨ k = 2 ∨ k = 3 := by omega
  rcases this with rfl | rfl | rfl | rfl <;> decide
theorem scr_loop (hP : P < 9223372036854775808) (hj : j ≤ 3) : ∀ d v, d = j - v → v ≤ j → ∀ n n' (κ σ : Nat → Nat) (B O : Nat → Int32), d < n → d < n' → Rep 0 κ σ → WF σ → ∃ r T' B' T2 O2, fX3_runScript_62 la cn us ch C G sv (nI j) (nL P) n (nI v) (E κ) B = some (.inr (r, T', B')) ∧ fX4_runScript_86 zs ac sp ou mt N dy kp ik (nI j) (nL P) n' (nL (1000000 ^ (j - v))) (nI v) rf (E σ) O = some (r, rf, T2, O2) := by
  intro d
  induction d with
  | zero =>
    intro v hd hv n n' κ σ B O hn hn' hR hW
    obtain ⟨n, rfl⟩ : ∃ g, n = g + 1 := ⟨n - 1, by omega⟩
    obtain ⟨n', rfl⟩ : ∃ g, n' = g + 1 := ⟨n' - 1, by omega⟩
    have hle : nI j ≤ nI v := (m_le (by omega) (by omega)).mpr (by omega)
    exact ⟨-1, E κ, B, E σ, O, by rw [fX3_runScript_62, if_pos hle], by rw [fX4_runScript_86, if_pos hle]⟩
  | succ d ih =>
    intro v hd hv n n' κ σ B O hn hn' hR hW
    obtain ⟨n, rfl⟩ : ∃ g, n = g + 1 := ⟨n - 1, by omega⟩
    obtain ⟨n', rfl⟩ : ∃ g, n' = g + 1 := ⟨n' - 1, by omega⟩
    have hle : ¬ nI j ≤ nI v := fun e => by have := (m_le (by omega) (by omega)).mp e; omega
    obtain ⟨k, hk⟩ : ∃ k, k = j - (v + 1) := ⟨_, rfl⟩
    have hk3 : k ≤ 3 := by omega
    obtain ⟨b1, b2⟩ := p6 k hk3
    obtain ⟨b3, b4⟩ := p6 (k + 1) (by omega)
    have hq : P / 1000000 ^ k < 9223372036854775808 := by have := Nat.div_le_self P (1000000 ^ k); omega
    have e1 : nI j - 1 - nI v = nI k := by
      rw [show (1 : Int32) = nI 1 from rfl, m_sub (by omega), m_sub (by omega)]
      congr 1
      omega
    have e2 : nL (1000000 ^ (k + 1)) / 1000000 = nL (1000000 ^ k) := by
      rw [show (1000000 : Int64) = nL 1000000 from rfl, nL_div (by omega) (by omega) (by omega), Nat.pow_succ, Nat.mul_div_cancel _ (by omega)]
    have e3 : ¬ nL (1000000 ^ k) = 0 := fun e => by
      have := (nL_eq (b := 0) (by omega) (by omega)).mp e
      omega
    have e4 : nL P / nL (1000000 ^ k) = nL (P / 1000000 ^ k) := nL_div hP (by omega) (by omega)
    have e5 : nL (P / 1000000 ^ k) - nL (P / 1000000 ^ k) / 1000000 * 1000000 = nL (P / 1000000 ^ k % 1000000) := nL_md (k := 1000000) hq (by omega) (by omega)
    have hg : P / 1000000 ^ k % 1000000 < 1000000 := Nat.mod_lt _ (by omega)
    rw [show j - v = k + 1 by omega, fX3_runScript_62, if_neg hle, e1, without_c hP hk3, Option.bind_some, e5, nL_i32, fX4_runScript_86, if_neg hle, e2, gz_in (decide_eq_true e3), e4, e5, nL_i32]
    generalize P / 1000000 ^ k % 1000000 = g at hg
    have d1 : nI g / 100000 = nI (g / 100000) := dq (k := 100000) hg (by omega) (by omega)
    have d2 : nI g - nI (g / 100000) * 100000 = nI (g % 100000) := by rw [← d1]; exact md (k := 100000) (by omega) (by omega) (by omega)
    rw [d1, d2]
    obtain ⟨r, κ', σ', B', O', t1, t2, t3, t4⟩ := sc_all (la := la) (cn := cn) (us := us) (ch := ch) (C := C) (G := G) (sv := sv) (B := B) (rf := rf) (zs := zs) (ac := ac) (sp := sp) (ou := ou) (mt := mt) (N := N) (O := O) (dy := dy) (kp := kp) (ik := ik) hR hW hg
    rw [t1, t2, Option.bind_some, Option.bind_some]
    dsimp only
    by_cases z : r = 0
    · rw [if_pos z, if_pos z]
      exact ⟨nI v, E κ', B', E σ', O', rfl, rfl⟩
    · rw [if_neg z, if_neg z, s1p, hk]
      exact ih (v + 1) (by omega) (by omega) n n' κ' σ' B' O' (by omega) (by omega) t3 t4
end SCL
