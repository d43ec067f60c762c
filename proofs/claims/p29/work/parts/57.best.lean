section BPU
variable {σ τ κ : Nat → Nat} {d i j k r w v x m n c q : Nat} {la cn us : Int32} {ch : Nat → Int32} {C G sv T B : Nat → Int32} {rf zs ac sp ou : Int32} {mt N jT jO O dy kp ik : Nat → Int32}
/-- which are gone -/
def gb (τ : Nat → Nat) (i : Nat) : Bool := decide (i < τ 0) && τ (40 + 18 * i) == 2
theorem goneSet4 (h : Rep d κ τ) (hW : WF τ) : ∀ n v, v ≤ 10 → 10 - v < n → fX0_goneSet_4 (E κ) n (nI (lowS (gb τ) v)) (nI v) = some (nI (lowS (gb τ) 10)) := by
  intro n
  induction n with
  | zero => intro v _ h; omega
  | succ n ih =>
    intro v hv hn
    rw [fX0_goneSet_4]
    by_cases g : 10 ≤ v
    · rw [if_pos (show 10 ≤ nI v from (m_le (a := 10) (by omega) (by omega)).mpr g), show v = 10 by omega]
    · have key := ih (v + 1) (by omega) (by omega)
      rw [lowS] at key
      have eg : fX0_isWhere (E κ) (nI v) 2 = some (nI (bN (gb τ v))) := isWhere_c h hW (w := 2) (by omega) (by omega)
      rw [if_neg (show ¬ 10 ≤ nI v from fun e => g ((m_le (a := 10) (by omega) (by omega)).mp e)), eg, Option.bind_some]
      unfold fX0_goneSet_25
      rw [s1p]
      cases z : gb τ v
      · rw [z, show bN false * 2 ^ v = 0 from Nat.zero_mul _, Nat.add_zero] at key
        rw [if_pos (show nI (bN false) = 0 from rfl)]
        exact key
      · rw [z] at key
        rw [if_neg (show ¬ nI (bN true) = 0 from by decide), or_c v (by omega) _ (low_lt _ v)]
        exact key
theorem goneSet_c (h : Rep d κ τ) (hW : WF τ) : fX0_goneSet (E κ) = some (nI (bS (gb τ) 10 0)) := by
  rw [← low_b]
  exact goneSet4 h hW (4999 + 1) 0 (by omega) (by omega)
theorem pS_cnt (τ : Nat → Nat) : ∀ n k, τ 0 ≤ k + n → pS (gb τ) n k = cnt τ 2 (τ 0 - k) k := by
  intro n
  induction n with
  | zero => intro k h; rw [show τ 0 - k = 0 by omega]; rfl
  | succ n ih =>
    intro k h
    rw [pS, ih (k + 1) (by omega)]
    by_cases g : k < τ 0
    · rw [show τ 0 - k = (τ 0 - (k + 1)) + 1 by omega, cnt]
      unfold gb
      rw [decide_eq_true g, Bool.true_and]
    · rw [show τ 0 - (k + 1) = 0 by omega, show τ 0 - k = 0 by omega]
      unfold gb
      rw [decide_eq_false g]
      rfl
theorem bs_lt (b : Nat → Bool) : bS b 10 0 < 1024 := by
  have := low_lt b 10
  rw [low_b] at this
  exact this
theorem bit_le (b : Nat → Bool) : ∀ n k i, i < n → bN (b (k + i)) ≤ pS b n k := by
  intro n
  induction n with
  | zero => intro k i h; omega
  | succ n ih =>
    intro k i h
    rw [pS]
    cases i with
    | zero => exact Nat.le_add_right _ _
    | succ i =>
      have := ih (k + 1) i (by omega)
      rw [show k + 1 + i = k + (i + 1) by omega] at this
      omega
theorem others (hW : WF τ) (hi : i < 10) : fX3_othersIn (nI (bS (gb τ) 10 0)) (nI i) = some (nI (cntN τ 2 - bN (gb τ i))) ∧ bN (gb τ i) ≤ cntN τ 2 := by
  have h0 := hW.1
  have e1 : pS (gb τ) 10 0 = cntN τ 2 := pS_cnt τ 10 0 (by omega)
  refine ⟨?_, ?_⟩
  · rw [others_c i hi _ (bs_lt _), pc_b, bit_b _ _ _ _ hi, Nat.zero_add, e1]
  · have := bit_le (gb τ) 10 0 i hi
    rw [Nat.zero_add, e1] at this
    exact this
/-- pulled on a copy, and two hundred ticks -/
theorem bp_c (hO : OKS m κ σ) (hi : i < σ 0) (hu : σ (40 + 18 * i) ≤ 1) (T B : Nat → Int32) : ∃ T2 B2 g, fX3_goneIfPulled la cn us ch (E κ) G sv T B (nI i) = some (nI g, T2, B2) ∧ g ≤ 10 ∧ ∀ σ', (∀ x, x < 220 → σ' x = σ x) → g = cntN (ticksN (pulN σ' i) 200) 2 := by
  have h0 := hO.2.1.1
  obtain ⟨δ, -, rfl⟩ := E_sur T
  obtain ⟨κ1, c1, c2⟩ := copy_c κ δ
  have hh : ∀ σ', (∀ x, x < 220 → σ' x = σ x) → ∃ κ2 κ3 m3, fX0_pullOut (E κ1) (nI i) = some (nI 1, E κ2) ∧ fX3_runAhead_r la cn us ch (E κ) G sv (E κ2) B = some (nI (untN thr 200 (pulN σ' i) 0).1, E κ3) ∧ fX0_countWhere (E κ3) 2 = some (nI (cntN (ticksN (pulN σ' i) 200) 2)) ∧ cntN (ticksN (pulN σ' i) 200) 2 ≤ 10 ∧ m3 = 0 := fun σ' hs => by
    have h := hO.congr (κ' := κ1) (σ' := σ') c2 hs
    have z0 := hs 0 (by omega)
    have zi := hs (40 + 18 * i) (by omega)
    obtain ⟨κ2, t1, t2⟩ := pullOut_t h.1 h.2.1 (show i < σ' 0 by omega) (by omega)
    have W := pull_WF h.2.1 (show i < σ' 0 by omega)
    obtain ⟨κ3, m3, b1, b2, b3, b4⟩ := ahead_r (la := la) (cn := cn) (us := us) (ch := ch) (C := E κ) (G := G) (sv := sv) (B := B) t2 W
    have ed := countWhere_c (w := 2) b3 (ticks_WF m3 _ W) (by omega)
    rw [← b4.cnt] at ed
    exact ⟨κ2, κ3, 0, t1, b2, ed, cntN_le10 (ticks_WF 200 _ W), rfl⟩
  obtain ⟨κ2, κ3, -, t1, b2, ed, hg, -⟩ := hh σ (fun _ _ => rfl)
  refine ⟨E κ2, E κ3, cntN (ticksN (pulN σ i) 200) 2, ?_, hg, fun σ' hs => ?_⟩
  · unfold fX3_goneIfPulled
    rw [c1, Option.bind_some, t1, Option.bind_some]
    dsimp only
    rw [b2, Option.bind_some]
    dsimp only
    rw [ed]
    rfl
  · obtain ⟨κ4, κ5, -, s1, s2, s3, s4, -⟩ := hh σ' hs
    have e1 := s1.symm.trans t1
    simp only [Option.some.injEq, Prod.mk.injEq, true_and] at e1
    rw [e1] at s2
    have e2 := s2.symm.trans b2
    simp only [Option.some.injEq, Prod.mk.injEq] at e2
    rw [e2.2, ed] at s3
    simp only [Option.some.injEq] at s3
    exact (m_eq (by omega) (by omega)).mp s3
end BPU
