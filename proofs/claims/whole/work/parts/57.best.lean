section BPU
variable {σ τ κ : Nat → Nat} {d i j k r w v x m n c q : Nat} {la cn us : Int32} {ch : Nat → Int32} {C G sv T B : Nat → Int32} {rf zs ac sp ou : Int32} {mt N jT jO O dy kp ik : Nat → Int32}
/-- which are gone -/
def gb (τ : Nat → Nat) (i : Nat) : Bool := decide (i < τ 0) && τ (40 + 18 * i) == 2
theorem goneSet4 (h : Rep d κ τ) (hW : WF τ) : ∀ n v, v ≤ 10 → 10 - v < n → fX0_goneSet_4 (E κ) n (nI (lowS (gb τ) v)) (nI v) = some (nI (lowS (gb τ) 10)) := by
  intro n
  induction n with
  | zero => intro v _ h; omega
  | succ n ih =>
    intro v hv hn
    rw [fX0_goneSet_4]
    by_cases g : 10 ≤ v
    · rw [if_pos (show 10 ≤ nI v from (m_le (a := 10) (by omega) (by omega)).mpr g), show v = 10 by omega]
    · have key := ih (v + 1) (by omega) (by omega)
      rw [lowS] at key
      have eg : fX0_isWhere (E κ) (nI v) 2 = some (nI (bN (gb τ v))) := isWhere_c h hW (w := 2) (by omega) (by omega)
      rw [if_neg (show ¬ 10 ≤ nI v from fun e => g ((m_le (a := 10) (by omega) (by omega)).mp e)), eg, Option.bind_some]
      unfold fX0_goneSet_25
      rw [s1p]
      cases z : gb τ v
      · rw [z, show bN false * 2 ^ v = 0 from Nat.zero_mul _, Nat.add_zero] at key
        rw [if_pos (show nI (bN false) = 0 from rfl)]
        exact key
      · rw [z] at key
        rw [if_neg (show ¬ nI (bN true) = 0 from by decide), or_c v (by omega) _ (low_lt _ v)]
        exact key
theorem goneSet_c (h : Rep d κ τ) (hW : WF τ) : fX0_goneSet (E κ) = some (nI (bS (gb τ) 10 0)) := by
  rw [← low_b]
  exact goneSet4 h hW (4999 + 1) 0 (by omega) (by omega)
theorem pS_cnt (τ : Nat → Nat) : ∀ n k, τ 0 ≤ k + n → pS (gb τ) n k = cnt τ 2 (τ 0 - k) k := by
  intro n
  induction n with
  | zero => intro k h; rw [show τ 0 - k = 0 by omega]; rfl
  | succ n ih =>
    intro k h
    rw [pS, ih (k + 1) (by omega)]
    by_cases g : k < τ 0
    · rw [show τ 0 - k = (τ 0 - (k + 1)) + 1 by omega, cnt]
      unfold gb
      rw [decide_eq_true g, Bool.true_and]
    · rw [show τ 0 - (k + 1) = 0 by omega, show τ 0 - k = 0 by omega]
      unfold gb
      rw [decide_eq_false g]
      rfl
theorem bs_lt (b : Nat → Bool) : bS b 10 0 < 1024 := by
  have := low_lt b 10
  rw [low_b] at this
  exact this
theorem bit_le (b : Nat → Bool) : ∀ n k i, i < n → bN (b (k + i)) ≤ pS b n k := by
  intro n
  induction n with
  | zero => intro k i h; omega
  | succ n ih =>
    intro k i h
    rw [pS]
    cases i with
    | zero => exact Nat.le_add_right _ _
    | succ i =>
      have := ih (k + 1) i (by omega)
      rw [show k + 1 + i = k + (i + 1) by omega] at this
      omega
theorem others (hW : WF τ) (hi : i < 10) : fX3_othersIn (nI (bS (gb τ) 10 0)) (nI i) = some (nI (cntN τ 2 - bN (gb τ i))) ∧ bN (gb τ i) ≤ cntN τ 2 := by
  have h0 := hW.1
  have e1 : pS (gb τ) 10 0 = cntN τ 2 := pS_cnt τ 10 0 (by omega)
  refine ⟨?_, ?_⟩
  · rw [others_c i hi _ (bs_lt _), pc_b, bit_b _ _ _ _ hi, Nat.zero_add, e1]
  · have := bit_le (gb τ) 10 0 i hi
    rw [Nat.zero_add, e1] at this
    exact this
/-- pulled on a copy, and two hundred ticks -/
theorem bp_c (hO : OKS m κ σ) (hi : i < σ 0) (hu : σ (40 + 18 * i) ≤ 1) (T B : Nat → Int32) : ∃ T2 B2 g, fX3_goneIfPulled la cn us ch (E κ) G sv T B (nI i) = some (nI g, T2, B2) ∧ g ≤ 10 ∧ ∀ σ', (∀ x, x < 220 → σ' x = σ x) → g = cntN (ticksN (pulN σ' i) 200) 2 := by
  have h0 := hO.2.1.1
  obtain ⟨δ, -, rfl⟩ := E_sur T
  obtain ⟨κ1, c1, c2⟩ := copy_c κ δ
  have hh : ∀ σ', (∀ x, x < 220 → σ' x = σ x) → ∃ κ2 κ3 m3, fX0_pullOut (E κ1) (nI i) = some (nI 1, E κ2) ∧ fX3_runAhead_r la cn us ch (E κ) G sv (E κ2) B = some (nI (untN thr 200 (pulN σ' i) 0).1, E κ3) ∧ fX0_countWhere (E κ3) 2 = some (nI (cntN (ticksN (pulN σ' i) 200) 2)) ∧ cntN (ticksN (pulN σ' i) 200) 2 ≤ 10 ∧ m3 = 0 := fun σ' hs => by
    have h := hO.congr (κ' := κ1) (σ' := σ') c2 hs
    have z0 := hs 0 (by omega)
    have zi := hs (40 + 18 * i) (by omega)
    obtain ⟨κ2, t1, t2⟩ := pullOut_t h.1 h.2.1 (show i < σ' 0 by omega) (by omega)
    have W := pull_WF h.2.1 (show i < σ' 0 by omega)
    obtain ⟨κ3, m3, b1, b2, b3, b4⟩ := ahead_r (la := la) (cn := cn) (us := us) (ch := ch) (C := E κ) (G := G) (sv := sv) (B := B) t2 W
    have ed := countWhere_c (w := 2) b3 (ticks_WF m3 _ W) (by omega)
    rw [← b4.cnt] at ed
    exact ⟨κ2, κ3, 0, t1, b2, ed, cntN_le10 (ticks_WF 200 _ W), rfl⟩
  obtain ⟨κ2, κ3, -, t1, b2, ed, hg, -⟩ := hh σ (fun _ _ => rfl)
  refine ⟨E κ2, E κ3, cntN (ticksN (pulN σ i) 200) 2, ?_, hg, fun σ' hs => ?_⟩
  · unfold fX3_goneIfPulled
    rw [c1, Option.bind_some, t1, Option.bind_some]
    dsimp only
    rw [b2, Option.bind_some]
    dsimp only
    rw [ed]
    rfl
  · obtain ⟨κ4, κ5, -, s1, s2, s3, s4, -⟩ := hh σ' hs
    have e1 := s1.symm.trans t1
    simp only [Option.some.injEq, Prod.mk.injEq, true_and] at e1
    rw [e1] at s2
    have e2 := s2.symm.trans b2
    simp only [Option.some.injEq, Prod.mk.injEq] at e2
    rw [e2.2, ed] at s3
    simp only [Option.some.injEq] at s3
    exact (m_eq (by omega) (by omega)).mp s3
/-- the best so far, in both -/
def BR (j : Nat) (v2 v3 u2 u3 : Int32) : Prop := v2 = u2 ∧ ((v2 = -1 ∧ v3 = -1) ∨ ∃ q, q < j ∧ v2 = nI q ∧ v3 = u3)
theorem BR.up {v2 v3 u2 u3 : Int32} (h : BR j v2 v3 u2 u3) : BR (j + 1) v2 v3 u2 u3 := ⟨h.1, h.2.imp id fun ⟨q, a, b⟩ => ⟨q, by omega, b⟩⟩
theorem bp_loop (hO : OKS m κ σ) (hW : WF τ) (h0t : τ 0 = σ 0) : ∀ d j, d = σ 0 - j → j ≤ σ 0 → ∀ n n' v2 v3 u2 u3 T B jT, d < n → d < n' → BR j v2 v3 u2 u3 → ∃ v T' B' T2, fX3_bestPull_24 la cn us ch (E κ) G sv n (nI (bS (gb τ) 10 0)) v2 v3 (nI j) T B = some (v, T', B') ∧ fX4_bestPull_45 (E σ) n' (nI (cntN τ 2)) u2 u3 (nI j) rf jT (E τ) = some (v, rf, T2, E τ) := by
  have h0 := hO.2.1.1
  have e0 : fX0_count (E κ) = some (nI (σ 0)) := by
    show some (nI (κ 0)) = _
    rw [hO.1.1]
  intro d
  induction d with
  | zero =>
    intro j hd hj n n' v2 v3 u2 u3 T B jT hn hn' hB
    obtain ⟨n, rfl⟩ : ∃ g, n = g + 1 := ⟨n - 1, by omega⟩
    obtain ⟨n', rfl⟩ : ∃ g, n' = g + 1 := ⟨n' - 1, by omega⟩
    have hle : nI (σ 0) ≤ nI j := (m_le (by omega) (by omega)).mpr (by omega)
    refine ⟨v2, T, B, jT, ?_, ?_⟩
    · rw [fX3_bestPull_24, e0, Option.bind_some, if_pos hle]
    · rw [fX4_bestPull_45, if_pos (show E σ 0 ≤ nI j from hle), hB.1]
  | succ d ih =>
    intro j hd hj n n' v2 v3 u2 u3 T B jT hn hn' hB
    obtain ⟨n, rfl⟩ : ∃ g, n = g + 1 := ⟨n - 1, by omega⟩
    obtain ⟨n', rfl⟩ : ∃ g, n' = g + 1 := ⟨n' - 1, by omega⟩
    have hle : ¬ nI (σ 0) ≤ nI j := fun e => by have := (m_le (by omega) (by omega)).mp e; omega
    have hjs : j < σ 0 := by omega
    rw [fX3_bestPull_24, e0, Option.bind_some, if_neg hle, fX4_bestPull_45, if_neg (show ¬ E σ 0 ≤ nI j from hle), isUnderWay_c hO.1 hO.2.1 (by omega), canPull_E hO.2.1 hjs, Option.bind_some, Option.bind_some]
    have eu : uw σ j = decide (σ (40 + 18 * j) < 2) := by unfold uw; rw [decide_eq_true hjs]; rfl
    rw [eu]
    unfold fX3_bestPull_79 fX4_bestPull_133 fX4_bestPull_142 fX4_bestPull_165 fX4_bestPull_160 fX4_bestPull_166 fX4_bestPull_179 fX4_bestPull_180
    simp only [s1p]
    by_cases g : σ (40 + 18 * j) < 2
    · rw [decide_eq_true g, if_neg (show ¬ nI (bN true) = 0 from by decide), if_neg (show ¬ nI (bN true) = 0 from by decide)]
      obtain ⟨T2, B2, c, e1, hc, e2⟩ := bp_c (la := la) (cn := cn) (us := us) (ch := ch) (G := G) (sv := sv) hO hjs (by omega) T B
      obtain ⟨σ', c1, hs⟩ := copy_E σ jT
      have hO' := hO.congr (σ' := σ') (fun _ _ => rfl) hs
      have z0 := hs 0 (by omega)
      have W2 := pull_WF hO'.2.1 (show j < σ' 0 by omega)
      obtain ⟨o1, o2⟩ := others hW (show j < 10 by omega)
      have ec := e2 σ' hs
      have gbj : gb τ j = (τ (40 + 18 * j) == 2) := by unfold gb; rw [decide_eq_true (show j < τ 0 by omega), Bool.true_and]
      have hcw := (hW.2.2.2.1 j (by omega)).1
      have lc := cntN_le10 (w := 2) hW
      rw [e1, Option.bind_some]
      dsimp only
      rw [o1, Option.bind_some, c1, Option.bind_some, pullOn_E (by omega), Option.bind_some]
      dsimp only
      rw [show (200 : Int32) = nI 200 from rfl, ticksOn_E W2 (by omega), Option.bind_some]
      dsimp only
      rw [show (2 : Int32) = nI 2 from rfl, count_E (ticks_WF 200 _ W2) (by omega), Option.bind_some, ← ec, isIn_E (by omega) (by omega) (by omega), Option.bind_some, ← gbj]
      have rest : ∃ v T' B' T2', (if nI c ≤ nI (cntN τ 2 - bN (gb τ j)) then fX3_bestPull_24 la cn us ch (E κ) G sv n (nI (bS (gb τ) 10 0)) v2 v3 (nI (j + 1)) T2 B2 else if nI c ≤ v3 then fX3_bestPull_24 la cn us ch (E κ) G sv n (nI (bS (gb τ) 10 0)) v2 v3 (nI (j + 1)) T2 B2 else fX3_bestPull_24 la cn us ch (E κ) G sv n (nI (bS (gb τ) 10 0)) (nI j) (nI c) (nI (j + 1)) T2 B2) = some (v, T', B') ∧ (if nI c ≤ nI (cntN τ 2) - nI (bN (gb τ j)) then fX4_bestPull_45 (E σ) n' (nI (cntN τ 2)) u2 u3 (nI (j + 1)) rf (E (ticksN (pulN σ' j) 200)) (E τ) else if u2 = -1 then fX4_bestPull_45 (E σ) n' (nI (cntN τ 2)) (nI j) (nI c) (nI (j + 1)) rf (E (ticksN (pulN σ' j) 200)) (E τ) else if nI c ≤ u3 then fX4_bestPull_45 (E σ) n' (nI (cntN τ 2)) u2 u3 (nI (j + 1)) rf (E (ticksN (pulN σ' j) 200)) (E τ) else fX4_bestPull_45 (E σ) n' (nI (cntN τ 2)) (nI j) (nI c) (nI (j + 1)) rf (E (ticksN (pulN σ' j) 200)) (E τ)) = some (v, rf, T2', E τ) := by
        rw [m_sub o2]
        have take := ih (j + 1) (by omega) (by omega) n n' (nI j) (nI c) (nI j) (nI c) T2 B2 (E (ticksN (pulN σ' j) 200)) (by omega) (by omega) ⟨rfl, Or.inr ⟨j, by omega, rfl, rfl⟩⟩
        have stay := ih (j + 1) (by omega) (by omega) n n' v2 v3 u2 u3 T2 B2 (E (ticksN (pulN σ' j) 200)) (by omega) (by omega) hB.up
        by_cases g1 : nI c ≤ nI (cntN τ 2 - bN (gb τ j))
        · rw [if_pos g1, if_pos g1]; exact stay
        · rw [if_neg g1, if_neg g1]
          rcases hB with ⟨rfl, ⟨b1, b2⟩ | ⟨q, b1, b2, b3⟩⟩
          · have : ¬ nI c ≤ v3 := by
              rw [b2]
              intro e
              have h0 : (0 : Int32) ≤ nI c := (m_le (a := 0) (by omega) (by omega)).mpr (Nat.zero_le _)
              exact absurd (Int32.le_trans h0 e) (by decide)
            rw [if_neg this, if_pos b1]; exact take
          · rw [if_neg (show ¬ v2 = -1 from by rw [b2]; exact nI_no (by omega)), ← b3]
            by_cases g3 : nI c ≤ v3
            · rw [if_pos g3, if_pos g3, b3]
              rw [b3] at stay
              exact stay
            · rw [if_neg g3, if_neg g3]; exact take
      have hne : ¬ u2 = nI j := by
        rcases hB with ⟨rfl, ⟨b1, b2⟩ | ⟨q, b1, b2, b3⟩⟩
        · rw [b1]; exact fun e => nI_no (by omega) e.symm
        · rw [b2]; exact fun e => by have := (m_eq (by omega) (by omega)).mp e; omega
      simp only [if_neg hne, if_neg (show ¬ (1 : Int32) = 0 from by decide), if_true]
      cases gz : gb τ j
      · rw [gz] at rest
        rw [if_pos (show nI (bN false) = 0 from rfl)]
        exact rest
      · rw [gz] at rest
        rw [if_neg (show ¬ nI (bN true) = 0 from by decide)]
        exact rest
    · rw [decide_eq_false g, if_pos (show nI (bN false) = 0 from rfl), if_pos (show nI (bN false) = 0 from rfl)]
      exact ih (j + 1) (by omega) (by omega) n n' v2 v3 u2 u3 T B jT (by omega) (by omega) hB.up
end BPU
