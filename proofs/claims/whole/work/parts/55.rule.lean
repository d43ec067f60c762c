section BRU
variable {σ τ κ : Nat → Nat} {d i j k r w v x m n : Nat} {la cn us : Int32} {ch : Nat → Int32} {C G sv T B : Nat → Int32} {rf zs ac sp ou : Int32} {mt N jT jO O dy kp ik : Nat → Int32}
def tkU (σ : Nat → Nat) : Nat := if (untN thr 200 σ 0).1 = 4294967295 then 201 else (untN thr 200 σ 0).1
theorem unt_in (f : (Nat → Nat) → Bool) (σ : Nat → Nat) : (untN f 200 σ 0).1 = 4294967295 ∨ (untN f 200 σ 0).1 ≤ 200 := by
  rcases unt_spec f 200 σ 0 with ⟨k, k1, _, _, k4⟩ | ⟨_, k2⟩
  · rw [k4]; exact Or.inr (by omega)
  · rw [k2]; exact Or.inl rfl
theorem tkU_le : tkU σ ≤ 201 := by
  unfold tkU
  have := unt_in thr σ
  split <;> omega
theorem noneMost : fX3_noneAsMost (nI (untN thr 200 σ 0).1) = some (nI (tkU σ)) := by
  unfold fX3_noneAsMost tkU
  have := unt_in thr σ
  by_cases g : (untN thr 200 σ 0).1 = 4294967295
  · rw [if_pos (show nI (untN thr 200 σ 0).1 = -1 from by rw [g]; decide), if_pos g]; rfl
  · rw [if_neg (show ¬ nI (untN thr 200 σ 0).1 = -1 from nI_no (by omega)), if_neg g]
theorem cntN_le10 (hW : WF σ) : cntN σ w ≤ 10 := by
  have := cnt_le σ w (σ 0) 0
  have := hW.1
  unfold cntN
  omega
theorem bru_c (hO : OKS m κ σ) (hr : r ≤ 2) (T B : Nat → Int32) : ∃ T2 B2 g tk, (∀ n v1 v2 v3, fX3_bestRule_9 la cn us ch (E κ) G sv (n + 1) v1 v2 v3 (nI r) T B = if v2 < nI g then fX3_bestRule_9 la cn us ch (E κ) G sv n (nI r) (nI g) (nI tk) (nI (r + 1)) T2 B2 else if nI g = v2 then (if v3 ≤ nI tk then fX3_bestRule_9 la cn us ch (E κ) G sv n v1 v2 v3 (nI (r + 1)) T2 B2 else fX3_bestRule_9 la cn us ch (E κ) G sv n (nI r) (nI g) (nI tk) (nI (r + 1)) T2 B2) else fX3_bestRule_9 la cn us ch (E κ) G sv n v1 v2 v3 (nI (r + 1)) T2 B2) ∧ g ≤ 10 ∧ ∀ σ', (∀ x, x < 220 → σ' x = σ x) → g = cntN (ticksN (upN σ' 2 r) 200) 2 ∧ tk = tkU (upN σ' 2 r) := by
  obtain ⟨δ, -, rfl⟩ := E_sur T
  obtain ⟨κ1, c1, c2⟩ := copy_c κ δ
  have hh : ∀ σ', (∀ x, x < 220 → σ' x = σ x) → Rep 0 (upN κ1 1 r) (upN σ' 2 r) ∧ WF (upN σ' 2 r) := fun σ' hs => by
    have h := hO.congr (κ' := κ1) (σ' := σ') c2 hs
    exact ⟨rep_rule h.1 h.2.1 hr, rule_WF h.2.1 hr⟩
  obtain ⟨R1, W1⟩ := hh σ (fun _ _ => rfl)
  obtain ⟨κ2, m2, a1, a2, a3, a4⟩ := ahead_r (la := la) (cn := cn) (us := us) (ch := ch) (C := E κ) (G := G) (sv := sv) (B := B) R1 W1
  have ec := countWhere_c (w := 2) a3 (ticks_WF m2 _ W1) (by omega)
  refine ⟨E (upN κ1 1 r), E κ2, cntN (ticksN (upN σ 2 r) m2) 2, tkU (upN σ 2 r), fun n v1 v2 v3 => ?_, cntN_le10 (ticks_WF m2 _ W1), fun σ' hs => ?_⟩
  · rw [fX3_bestRule_9, if_neg (show ¬ 3 ≤ nI r from fun e => by have := (m_le (a := 3) (by omega) (by omega)).mp e; omega), c1, Option.bind_some, setRule_t hr, Option.bind_some]
    dsimp only
    rw [a2, Option.bind_some]
    dsimp only
    rw [noneMost, Option.bind_some, show (2 : Int32) = nI 2 from rfl, ec, Option.bind_some]
    unfold fX3_bestRule_77 fX3_bestRule_86
    rw [s1p]
  · obtain ⟨R3, W3⟩ := hh σ' hs
    obtain ⟨κ3, m3, b1, b2, b3, b4⟩ := ahead_r (la := la) (cn := cn) (us := us) (ch := ch) (C := E κ) (G := G) (sv := sv) (B := B) R3 W3
    have e := b2.symm.trans a2
    simp only [Option.some.injEq, Prod.mk.injEq] at e
    obtain ⟨e1, e2⟩ := e
    have ed := countWhere_c (w := 2) b3 (ticks_WF m3 _ W3) (by omega)
    rw [e2, ec] at ed
    simp only [Option.some.injEq] at ed
    have l1 := cntN_le10 (w := 2) (ticks_WF m2 _ W1)
    have l2 := cntN_le10 (w := 2) (ticks_WF m3 _ W3)
    have e3 := (m_eq (by omega) (by omega)).mp ed
    have q1 := unt_in thr (upN σ 2 r)
    have q2 := unt_in thr (upN σ' 2 r)
    have e4 := (m_eq (by omega) (by omega)).mp e1
    refine ⟨?_, ?_⟩
    · rw [e3, b4.cnt]
    · unfold tkU
      rw [e4]
theorem bru_E (hO : OKS m κ σ) (hr : r ≤ 2) (T : Nat → Int32) {g tk : Nat} (h : ∀ σ', (∀ x, x < 220 → σ' x = σ x) → g = cntN (ticksN (upN σ' 2 r) 200) 2 ∧ tk = tkU (upN σ' 2 r)) : ∃ T2, ∀ n v1 v2 v3 rf, fX4_bestRule_14 (E σ) (n + 1) v1 v2 v3 (nI r) rf T = if v2 < nI g then fX4_bestRule_14 (E σ) n (nI r) (nI g) (nI tk) (nI (r + 1)) rf T2 else if nI g = v2 then (if v3 ≤ nI tk then fX4_bestRule_14 (E σ) n v1 v2 v3 (nI (r + 1)) rf T2 else fX4_bestRule_14 (E σ) n (nI r) (nI g) (nI tk) (nI (r + 1)) rf T2) else fX4_bestRule_14 (E σ) n v1 v2 v3 (nI (r + 1)) rf T2 := by
  obtain ⟨σ1, c1, s1⟩ := copy_E σ T
  have hO1 := hO.congr (σ' := σ1) (fun _ _ => rfl) s1
  have W1 := rule_WF hO1.2.1 hr
  obtain ⟨σ2, c2, s2⟩ := copy_E σ (E (untN thr 200 (upN σ1 2 r) 0).2)
  have hO2 := hO.congr (σ' := σ2) (fun _ _ => rfl) s2
  have W2 := rule_WF hO2.2.1 hr
  have h1 := (h σ1 s1).2
  have h2 := (h σ2 s2).1
  refine ⟨E (ticksN (upN σ2 2 r) 200), fun n v1 v2 v3 rf => ?_⟩
  have key : fX4_bestRule_65 (fX4_bestRule_14 (E σ) n) (E σ) v1 v2 v3 (nI r) (nI tk) rf (E (untN thr 200 (upN σ1 2 r) 0).2) = if v2 < nI g then fX4_bestRule_14 (E σ) n (nI r) (nI g) (nI tk) (nI (r + 1)) rf (E (ticksN (upN σ2 2 r) 200)) else if nI g = v2 then (if v3 ≤ nI tk then fX4_bestRule_14 (E σ) n v1 v2 v3 (nI (r + 1)) rf (E (ticksN (upN σ2 2 r) 200)) else fX4_bestRule_14 (E σ) n (nI r) (nI g) (nI tk) (nI (r + 1)) rf (E (ticksN (upN σ2 2 r) 200))) else fX4_bestRule_14 (E σ) n v1 v2 v3 (nI (r + 1)) rf (E (ticksN (upN σ2 2 r) 200)) := by
    unfold fX4_bestRule_65
    rw [c2, Option.bind_some, m_upd, show (200 : Int32) = nI 200 from rfl, ticksOn_E W2 (by omega), Option.bind_some]
    dsimp only
    rw [show (2 : Int32) = nI 2 from rfl, count_E (ticks_WF 200 _ W2) (by omega), Option.bind_some, ← h2]
    unfold fX4_bestRule_127 fX4_bestRule_131 fX4_bestRule_132 fX4_bestRule_145 fX4_bestRule_157 fX4_bestRule_169
    rw [s1p]
    simp only [if_neg (show ¬ (1 : Int32) = 0 from by decide), if_true]
  rw [fX4_bestRule_14, if_neg (show ¬ 3 ≤ nI r from fun e => by have := (m_le (a := 3) (by omega) (by omega)).mp e; omega), c1, Option.bind_some, m_upd, show (-1 : Int32) = nI 4294967295 from by decide, untilT_E W1, Option.bind_some]
  dsimp only
  have hu := unt_in thr (upN σ1 2 r)
  unfold tkU at h1
  by_cases g1 : (untN thr 200 (upN σ1 2 r) 0).1 = 4294967295
  · rw [if_pos g1] at h1
    rw [g1, if_pos rfl, ← key, h1]
    rfl
  · rw [if_neg g1] at h1
    rw [if_neg (fun e => g1 ((m_eq (by omega) (by omega)).mp e)), ← key, h1]
theorem bru_loop (hO : OKS m κ σ) : ∀ d j, d = 3 - j → j ≤ 3 → ∀ n n' v1 v2 v3 T B jT, d < n → d < n' → ∃ v T' B' T2, fX3_bestRule_9 la cn us ch (E κ) G sv n v1 v2 v3 (nI j) T B = some (v, T', B') ∧ fX4_bestRule_14 (E σ) n' v1 v2 v3 (nI j) rf jT = some (v, rf, T2) := by
  intro d
  induction d with
  | zero =>
    intro j hd hj n n' v1 v2 v3 T B jT hn hn'
    obtain ⟨n, rfl⟩ : ∃ g, n = g + 1 := ⟨n - 1, by omega⟩
    obtain ⟨n', rfl⟩ : ∃ g, n' = g + 1 := ⟨n' - 1, by omega⟩
    have h3 : (3 : Int32) ≤ nI j := by rw [show j = 3 by omega]; decide
    exact ⟨v1, T, B, jT, by rw [fX3_bestRule_9, if_pos h3], by rw [fX4_bestRule_14, if_pos h3]⟩
  | succ d ih =>
    intro j hd hj n n' v1 v2 v3 T B jT hn hn'
    obtain ⟨n, rfl⟩ : ∃ g, n = g + 1 := ⟨n - 1, by omega⟩
    obtain ⟨n', rfl⟩ : ∃ g, n' = g + 1 := ⟨n' - 1, by omega⟩
    obtain ⟨T2, B2, g, tk, e1, -, e2⟩ := bru_c (la := la) (cn := cn) (us := us) (ch := ch) (G := G) (sv := sv) hO (show j ≤ 2 by omega) T B
    obtain ⟨T3, e3⟩ := bru_E hO (show j ≤ 2 by omega) jT e2
    rw [e1, e3]
    by_cases g1 : v2 < nI g
    · rw [if_pos g1, if_pos g1]
      exact ih (j + 1) (by omega) (by omega) n n' _ _ _ _ _ _ (by omega) (by omega)
    · rw [if_neg g1, if_neg g1]
      by_cases g2 : nI g = v2
      · rw [if_pos g2, if_pos g2]
        by_cases g3 : v3 ≤ nI tk
        · rw [if_pos g3, if_pos g3]
          exact ih (j + 1) (by omega) (by omega) n n' _ _ _ _ _ _ (by omega) (by omega)
        · rw [if_neg g3, if_neg g3]
          exact ih (j + 1) (by omega) (by omega) n n' _ _ _ _ _ _ (by omega) (by omega)
      · rw [if_neg g2, if_neg g2]
        exact ih (j + 1) (by omega) (by omega) n n' _ _ _ _ _ _ (by omega) (by omega)
theorem q_bestRule (hO : OKS m κ σ) : ∃ v T' B' T2, fX3_bestRule la cn us ch (E κ) G sv T B = some (v, T', B') ∧ fX4_bestRule rf zs ac sp ou mt (E σ) jT jO dy kp ik = some (v, 0, T2) := by
  have a1 : fX3_bestRule la cn us ch (E κ) G sv T B = fX3_bestRule_9 la cn us ch (E κ) G sv (4999 + 1) 0 (-1) (-1) (nI 0) T B := rfl
  have a2 : fX4_bestRule rf zs ac sp ou mt (E σ) jT jO dy kp ik = fX4_bestRule_14 (E σ) (4999 + 1) (-1) (-1) 0 (nI 0) 0 jT := rfl
  obtain ⟨T2, B2, g, tk, e1, hg, e2⟩ := bru_c (la := la) (cn := cn) (us := us) (ch := ch) (G := G) (sv := sv) hO (show 0 ≤ 2 by omega) T B
  obtain ⟨T3, e3⟩ := bru_E hO (show 0 ≤ 2 by omega) jT e2
  have hlt : (-1 : Int32) < nI g := by
    have h0 : (0 : Int32) ≤ nI g := (m_le (a := 0) (by omega) (by omega)).mpr (Nat.zero_le _)
    exact Int32.lt_of_lt_of_le (by decide) h0
  rw [a1, a2, e1, e3, if_pos hlt, if_pos hlt]
  exact bru_loop hO 2 1 (by omega) (by omega) 4999 4999 _ _ _ _ _ _ (by omega) (by omega)
end BRU
