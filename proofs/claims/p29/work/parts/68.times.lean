/-! WHEN all come through, when one is gone; the pull that helps most -/
section TMS
variable {σ τ κ : Nat → Nat} {m i j k n v : Nat} {la cn us : Int32} {ch C G sv T B : Nat → Int32}
theorem thr_tick (hW : WF σ) (h : thr σ = true) : thr (tickN σ) = true := by
  rw [(stuck_tick hW (thr_stuck h)).thr]
  exact h
theorem thr_ticks : ∀ n (σ : Nat → Nat), WF σ → thr σ = true → thr (ticksN σ n) = true := by
  intro n
  induction n with
  | zero => intro σ _ h; exact h
  | succ n ih => intro σ hW h; rw [ticksN]; exact ih _ (tick_WF hW) (thr_tick hW h)
theorem thr_le (hW : WF σ) (hk : k ≤ n) (h : thr (ticksN σ k) = true) : thr (ticksN σ n) = true := by
  rw [show n = k + (n - k) by omega, ticks_add]
  exact thr_ticks _ _ (ticks_WF _ _ hW) h
theorem gon_le (hk : k ≤ n) (h : gon i (ticksN σ k) = true) : gon i (ticksN σ n) = true := by
  rw [show n = k + (n - k) by omega, ticks_add]
  simp only [gon, beq_iff_eq] at h ⊢
  exact ticks_gone _ _ h
theorem thr_iff (hW : WF σ) (hn : n ≤ 200) : thr (ticksN σ n) = true ↔ ((untN thr 200 σ 0).1 ≠ 4294967295 ∧ (untN thr 200 σ 0).1 ≤ n) := by
  rcases unt_spec thr 200 σ 0 with ⟨k, k1, k2, k3, k4⟩ | ⟨k1, k2⟩
  · rw [k4, Nat.zero_add]
    constructor
    · intro h
      refine ⟨by show k ≠ 4294967295; omega, ?_⟩
      show k ≤ n
      by_cases z : k ≤ n
      · exact z
      · rw [k3 n (by omega)] at h; cases h
    · rintro ⟨-, h⟩
      exact thr_le hW h k2
  · rw [k2]
    constructor
    · intro h
      rw [k1 n hn] at h
      cases h
    · rintro ⟨h, -⟩
      exact absurd rfl h
theorem gon_iff (hn : n ≤ 200) : gon i (ticksN σ n) = true ↔ ((untN (gon i) 200 σ 0).1 ≠ 4294967295 ∧ (untN (gon i) 200 σ 0).1 ≤ n) := by
  rcases unt_spec (gon i) 200 σ 0 with ⟨k, k1, k2, k3, k4⟩ | ⟨k1, k2⟩
  · rw [k4, Nat.zero_add]
    constructor
    · intro h
      refine ⟨by show k ≠ 4294967295; omega, ?_⟩
      show k ≤ n
      by_cases z : k ≤ n
      · exact z
      · rw [k3 n (by omega)] at h; cases h
    · rintro ⟨-, h⟩
      exact gon_le h k2
  · rw [k2]
    constructor
    · intro h
      rw [k1 n hn] at h
      cases h
    · rintro ⟨h, -⟩
      exact absurd rfl h
theorem gon_no : (untN (gon i) 200 σ 0).1 = 4294967295 ↔ gon i (ticksN σ 200) = false := by
  have h := gon_iff (σ := σ) (i := i) (n := 200) (by omega)
  have h2 := unt_in (gon i) σ
  cases g : gon i (ticksN σ 200)
  · rw [g] at h
    refine ⟨fun _ => rfl, fun _ => ?_⟩
    rcases h2 with e | e
    · exact e
    · by_cases z : (untN (gon i) 200 σ 0).1 = 4294967295
      · exact z
      · exact absurd (h.mpr ⟨z, e⟩) (by decide)
  · rw [g] at h
    exact ⟨fun e => absurd e (h.mp rfl).1, fun e => by cases e⟩
theorem thr_shift (hW : WF σ) (ht : (untN thr 200 σ 0).1 ≠ 4294967295) (hn : n ≤ (untN thr 200 σ 0).1) : (untN thr 200 (ticksN σ n) 0).1 = (untN thr 200 σ 0).1 - n := by
  rcases unt_spec thr 200 σ 0 with ⟨k, k1, k2, k3, k4⟩ | ⟨k1, k2⟩
  · rw [k4, Nat.zero_add] at hn ⊢
    have hn : n ≤ k := hn
    show _ = k - n
    have e2 : thr (ticksN (ticksN σ n) (k - n)) = true := by
      rw [← ticks_add, show n + (k - n) = k by omega]
      exact k2
    rcases unt_spec thr 200 (ticksN σ n) 0 with ⟨q, q1, q2, q3, q4⟩ | ⟨q1, q2⟩
    · rw [q4, Nat.zero_add]
      show q = k - n
      rw [← ticks_add] at q2
      have a : k ≤ n + q := by
        by_cases z : k ≤ n + q
        · exact z
        · rw [k3 (n + q) (by omega)] at q2; cases q2
      by_cases z : q ≤ k - n
      · omega
      · rw [q3 (k - n) (by omega)] at e2; cases e2
    · rw [q1 (k - n) (by omega)] at e2
      cases e2
  · rw [k2] at ht
    exact absurd rfl ht
/-- the gone ones behind 200 ticks if i is pulled now; the others that would be gone without it -/
def gP (σ : Nat → Nat) (i : Nat) : Nat := cntN (ticksN (pulN σ i) 200) 2
def oth (σ : Nat → Nat) (i : Nat) : Nat := cntN (ticksN σ 200) 2 - bN (gon i (ticksN σ 200))
def BP (σ : Nat → Nat) (j best most : Nat) : Prop :=
  (best = 4294967295 ∧ most = 4294967295 ∧ ∀ i, i < j → σ (40 + 18 * i) ≤ 1 → gP σ i ≤ oth σ i) ∨
  (best < j ∧ σ (40 + 18 * best) ≤ 1 ∧ most = gP σ best ∧ oth σ best < gP σ best ∧ ∀ i, i < j → σ (40 + 18 * i) ≤ 1 → gP σ i ≤ oth σ i ∨ gP σ i < gP σ best ∨ (gP σ i = gP σ best ∧ best ≤ i))
theorem bp_run (hO : OKS m κ σ) : ∀ d j, d = σ 0 - j → j ≤ σ 0 → ∀ n best most T B, d < n → BP σ j best most → ∃ b mo T' B', fX3_bestPull_24 la cn us ch (E κ) G sv n (nI (bS (gb (ticksN σ 200)) 10 0)) (nI best) (nI most) (nI j) T B = some (nI b, T', B') ∧ BP σ (σ 0) b mo := by
  have h0 := hO.2.1.1
  have hW2 := ticks_WF 200 _ hO.2.1
  have e0 : fX0_count (E κ) = some (nI (σ 0)) := by
    show some (nI (κ 0)) = _
    rw [hO.1.1]
  intro d
  induction d with
  | zero =>
    intro j hd hj n best most T B hn hB
    obtain ⟨n, rfl⟩ : ∃ g, n = g + 1 := ⟨n - 1, by omega⟩
    have hle : nI (σ 0) ≤ nI j := (m_le (by omega) (by omega)).mpr (by omega)
    refine ⟨best, most, T, B, ?_, ?_⟩
    · rw [fX3_bestPull_24, e0, Option.bind_some, if_pos hle]
    · rw [show σ 0 = j by omega]; exact hB
  | succ d ih =>
    intro j hd hj n best most T B hn hB
    obtain ⟨n, rfl⟩ : ∃ g, n = g + 1 := ⟨n - 1, by omega⟩
    have hle : ¬ nI (σ 0) ≤ nI j := fun e => by have := (m_le (by omega) (by omega)).mp e; omega
    have hjs : j < σ 0 := by omega
    rw [fX3_bestPull_24, e0, Option.bind_some, if_neg hle, isUnderWay_c hO.1 hO.2.1 (by omega), Option.bind_some]
    have eu : uw σ j = decide (σ (40 + 18 * j) < 2) := by unfold uw; rw [decide_eq_true hjs]; rfl
    rw [eu]
    unfold fX3_bestPull_79
    simp only [s1p]
    by_cases g : σ (40 + 18 * j) < 2
    · rw [decide_eq_true g, if_neg (show ¬ nI (bN true) = 0 from by decide)]
      obtain ⟨T2, B2, c, e1, hc, e2⟩ := bp_c (la := la) (cn := cn) (us := us) (ch := ch) (G := G) (sv := sv) hO hjs (by omega) T B
      have ec : c = gP σ j := e2 σ (fun _ _ => rfl)
      obtain ⟨o1, o2⟩ := others hW2 (show j < 10 by omega)
      have egb : gb (ticksN σ 200) j = gon j (ticksN σ 200) := by
        unfold gb gon
        rw [ticks_0, decide_eq_true hjs, Bool.true_and]
      rw [egb] at o1 o2
      have lc := cntN_le10 (w := 2) hW2
      rw [e1, Option.bind_some]
      dsimp only
      rw [o1, Option.bind_some, show cntN (ticksN σ 200) 2 - bN (gon j (ticksN σ 200)) = oth σ j from rfl, ec]
      have lo : oth σ j ≤ 10 := by unfold oth; omega
      rw [ec] at hc
      by_cases g1 : gP σ j ≤ oth σ j
      · rw [if_pos ((m_le (by omega) (by omega)).mpr g1)]
        refine ih (j + 1) (by omega) (by omega) n best most T2 B2 (by omega) ?_
        rcases hB with ⟨b1, b2, b3⟩ | ⟨b1, b2, b3, b4, b5⟩
        · refine Or.inl ⟨b1, b2, fun i hi hu => ?_⟩
          by_cases z : i = j
          · rw [z]; exact g1
          · exact b3 i (by omega) hu
        · refine Or.inr ⟨by omega, b2, b3, b4, fun i hi hu => ?_⟩
          by_cases z : i = j
          · rw [z]; exact Or.inl g1
          · exact b5 i (by omega) hu
      · rw [if_neg (fun e => g1 ((m_le (by omega) (by omega)).mp e))]
        rcases hB with ⟨b1, b2, b3⟩ | ⟨b1, b2, b3, b4, b5⟩
        · have hneg : ¬ nI (gP σ j) ≤ nI most := by
            rw [b2]
            intro e
            have h0 : (0 : Int32) ≤ nI (gP σ j) := (m_le (a := 0) (by omega) (by omega)).mpr (Nat.zero_le _)
            exact absurd (Int32.le_trans h0 e) (by decide)
          rw [if_neg hneg]
          refine ih (j + 1) (by omega) (by omega) n j (gP σ j) T2 B2 (by omega) (Or.inr ⟨by omega, by omega, rfl, by omega, fun i hi hu => ?_⟩)
          by_cases z : i = j
          · rw [z]; exact Or.inr (Or.inr ⟨rfl, Nat.le_refl _⟩)
          · exact Or.inl (b3 i (by omega) hu)
        · have lm : gP σ best ≤ 10 := by
            unfold gP
            exact cntN_le10 (ticks_WF 200 _ (pull_WF hO.2.1 (by omega)))
          rw [b3]
          by_cases g3 : gP σ j ≤ gP σ best
          · rw [if_pos ((m_le (by omega) (by omega)).mpr g3)]
            refine ih (j + 1) (by omega) (by omega) n best (gP σ best) T2 B2 (by omega) (Or.inr ⟨by omega, b2, rfl, b4, fun i hi hu => ?_⟩)
            by_cases z : i = j
            · rw [z]
              rcases Nat.lt_or_eq_of_le g3 with y | y
              · exact Or.inr (Or.inl y)
              · exact Or.inr (Or.inr ⟨y, by omega⟩)
            · exact b5 i (by omega) hu
          · rw [if_neg (fun e => g3 ((m_le (by omega) (by omega)).mp e))]
            refine ih (j + 1) (by omega) (by omega) n j (gP σ j) T2 B2 (by omega) (Or.inr ⟨by omega, by omega, rfl, by omega, fun i hi hu => ?_⟩)
            by_cases z : i = j
            · rw [z]; exact Or.inr (Or.inr ⟨rfl, Nat.le_refl _⟩)
            · rcases b5 i (by omega) hu with y | y | ⟨y, _⟩
              · exact Or.inl y
              · exact Or.inr (Or.inl (by omega))
              · exact Or.inr (Or.inl (by omega))
    · rw [decide_eq_false g, if_pos (show nI (bN false) = 0 from rfl)]
      refine ih (j + 1) (by omega) (by omega) n best most T B (by omega) ?_
      rcases hB with ⟨b1, b2, b3⟩ | ⟨b1, b2, b3, b4, b5⟩
      · refine Or.inl ⟨b1, b2, fun i hi hu => ?_⟩
        by_cases z : i = j
        · rw [z] at hu; omega
        · exact b3 i (by omega) hu
      · refine Or.inr ⟨by omega, b2, b3, b4, fun i hi hu => ?_⟩
        by_cases z : i = j
        · rw [z] at hu; omega
        · exact b5 i (by omega) hu
theorem best_c (hO : OKS m κ σ) : ∃ b mo T' B', fX3_bestPull la cn us ch (E κ) G sv T B = some (nI b, T', B') ∧ BP σ (σ 0) b mo := by
  obtain ⟨κ', m', a1, a2, a3, a4⟩ := ahead_h (la := la) (cn := cn) (us := us) (ch := ch) (G := G) (sv := sv) (T := T) (B := B) hO.1 hO.2.1
  have eg : gb (ticksN σ m') = gb (ticksN σ 200) := by
    funext i
    unfold gb
    rw [ticks_0, ticks_0, a4.at0 i]
  have e1 := goneSet_c a3 (ticks_WF m' _ hO.2.1)
  rw [eg] at e1
  obtain ⟨b, mo, T', B', b1, b2⟩ := bp_run (la := la) (cn := cn) (us := us) (ch := ch) (G := G) (sv := sv) hO (σ 0) 0 (by omega) (by omega) 5000 4294967295 4294967295 T (E κ') (by have := hO.2.1.1; omega) (Or.inl ⟨rfl, rfl, fun i hi => by omega⟩)
  refine ⟨b, mo, T', B', ?_, b2⟩
  unfold fX3_bestPull
  rw [a2, Option.bind_some]
  dsimp only
  rw [e1, Option.bind_some]
  exact b1
end TMS
section LTR
variable {σ τ κ : Nat → Nat} {h : List (Nat → Nat)} {sl : Nat → Option (Nat → Nat)} {m n : Nat} {la cn us : Int32} {ch C G sv T B : Nat → Int32} {v1 v3 : Int32}
theorem k_best (H : HS m σ h sl la cn C G sv) : ∃ b mo T' B', fX3_bestPull la cn us ch C G sv T B = some (nI b, T', B') ∧ BP σ (σ 0) b mo := by
  obtain ⟨κ, rfl, hO, -⟩ := H.here
  exact best_c hO
theorem nI_nn {a : Nat} {x : Int32} (ha : a < 2147483648) (hx : x < 0) : nI a ≠ x := fun e => nI_pos ha (e ▸ hx)
theorem thrown_ok {a : Nat} (ha : a < 2147483648) : fM_thrown (nI a) = some 0 := by
  unfold fM_thrown
  rw [if_neg (nI_nn ha (by decide)), if_neg (nI_nn ha (by decide)), if_neg (nI_nn ha (by decide))]
theorem abv3 (τ : Nat → Nat) : abv τ 3 = cntN τ 2 := rfl
theorem later6 (H : HS m σ h sl la cn C G sv) (hm : m ≤ 1000000000) (hv : ¬ 4 ≤ v3) : ∃ la' cn' C' G', fM_later_6 us ch T (n + 1) 1 v3 la cn C G sv B = fM_later_6 us ch T n 1 (v3 + 1) la' cn' C' G' sv B ∧ HS (m + 60) (ticksN σ 50) (σ :: h.take 13) sl la' cn' C' G' sv := by
  obtain ⟨la', cn', C', G', e, H2⟩ := k_ticks (us := us) (ch := ch) (T := T) (B := B) (y := 50) (z := 0) (w := 0) H hm 50 (by omega) (by omega) rfl
  refine ⟨la', cn', C', G', ?_, H2⟩
  have l1 := cntN_le10 (w := 2) H2.ok.1
  rw [fM_later_6, if_neg hv, if_neg (show ¬ (1 : Int32) = 0 from by decide), e, Option.bind_some]
  dsimp only
  rw [thrown_ok (by omega), Option.bind_some, if_pos rfl]
  rfl
theorem later54 (H : HS m σ (τ :: h) sl la cn C G sv) (hv : ¬ 4 ≤ v3) : ∃ la' cn' C' G', fM_later_54 us ch T (n + 1) v1 1 v3 la cn C G sv B = fM_later_54 us ch T n v1 1 (v3 + 1) la' cn' C' G' sv B ∧ HS m τ h sl la' cn' C' G' sv := by
  obtain ⟨la', cn', C', G', e, H2⟩ := k_undo (us := us) (ch := ch) (T := T) (B := B) (y := 0) (z := 0) (w := 0) H
  refine ⟨la', cn', C', G', ?_, H2⟩
  have l1 := H2.1
  rw [fM_later_54, if_neg hv, if_neg (show ¬ (1 : Int32) = 0 from by decide), e, Option.bind_some]
  dsimp only
  rw [thrown_ok (by omega), Option.bind_some, if_pos rfl]
  rfl
def lat (h : List (Nat → Nat)) : List (Nat → Nat) := List.take 10 (List.take 11 (List.take 12 (List.take 13 h)))
theorem later_c (H : HS m σ h sl la cn C G sv) (hm : m ≤ 900000000) : ∃ la' cn' C' G', fM_later la cn us ch C G sv T B = some (nI (cntN (ticksN σ 200) 2), la', cn', C', G', sv, B) ∧ HS (m + 240) σ (lat h) sl la' cn' C' G' sv := by
  obtain ⟨a1, a2, a3, a4, e1, H1⟩ := later6 (us := us) (ch := ch) (T := T) (B := B) (n := 5) (v3 := 0) H (by omega) (by decide)
  obtain ⟨b1, b2, b3, b4, e2, H2⟩ := later6 (us := us) (ch := ch) (T := T) (B := B) (n := 4) (v3 := 0 + 1) H1 (by omega) (by decide)
  obtain ⟨c1, c2, c3, c4, e3, H3⟩ := later6 (us := us) (ch := ch) (T := T) (B := B) (n := 3) (v3 := 0 + 1 + 1) H2 (by omega) (by decide)
  obtain ⟨d1, d2, d3, d4, e4, H4⟩ := later6 (us := us) (ch := ch) (T := T) (B := B) (n := 2) (v3 := 0 + 1 + 1 + 1) H3 (by omega) (by decide)
  have e200 : ticksN (ticksN (ticksN (ticksN σ 50) 50) 50) 50 = ticksN σ 200 := by
    rw [← ticks_add, ← ticks_add, ← ticks_add]
  rw [e200] at H4
  have H4 : HS (m + 240) (ticksN σ 200) (ticksN (ticksN (ticksN σ 50) 50) 50 :: ticksN (ticksN σ 50) 50 :: ticksN σ 50 :: σ :: lat h) sl d1 d2 d3 d4 sv := H4
  have ea := k_about (us := us) (ch := ch) (T := T) (B := B) (y := 3) (z := 0) (w := 0) H4 3 rfl (by omega)
  obtain ⟨f1, f2, f3, f4, g1, K1⟩ := later54 (us := us) (ch := ch) (T := T) (B := B) (n := 5) (v1 := nI (abv (ticksN σ 200) 3)) (v3 := 0) H4 (by decide)
  obtain ⟨h1, h2, h3, h4, g2, K2⟩ := later54 (us := us) (ch := ch) (T := T) (B := B) (n := 4) (v1 := nI (abv (ticksN σ 200) 3)) (v3 := 0 + 1) K1 (by decide)
  obtain ⟨i1, i2, i3, i4, g3, K3⟩ := later54 (us := us) (ch := ch) (T := T) (B := B) (n := 3) (v1 := nI (abv (ticksN σ 200) 3)) (v3 := 0 + 1 + 1) K2 (by decide)
  obtain ⟨j1, j2, j3, j4, g4, K4⟩ := later54 (us := us) (ch := ch) (T := T) (B := B) (n := 2) (v1 := nI (abv (ticksN σ 200) 3)) (v3 := 0 + 1 + 1 + 1) K3 (by decide)
  refine ⟨j1, j2, j3, j4, ?_, K4⟩
  have t1 : fM_later la cn us ch C G sv T B = fM_later_6 us ch T 5 1 (0 + 1) a1 a2 a3 a4 sv B := e1
  have t2 : fM_later_6 us ch T 5 1 (0 + 1) a1 a2 a3 a4 sv B = fM_later_6 us ch T 4 1 (0 + 1 + 1) b1 b2 b3 b4 sv B := e2
  have t3 : fM_later_6 us ch T 4 1 (0 + 1 + 1) b1 b2 b3 b4 sv B = fM_later_6 us ch T 3 1 (0 + 1 + 1 + 1) c1 c2 c3 c4 sv B := e3
  have t4 : fM_later_6 us ch T 3 1 (0 + 1 + 1 + 1) c1 c2 c3 c4 sv B = fM_later_6 us ch T (1 + 1) 1 (0 + 1 + 1 + 1 + 1) d1 d2 d3 d4 sv B := e4
  have u1 : fM_later_54 us ch T 6 (nI (abv (ticksN σ 200) 3)) 1 0 d1 d2 d3 d4 sv B = fM_later_54 us ch T 5 (nI (abv (ticksN σ 200) 3)) 1 (0 + 1) f1 f2 f3 f4 sv B := g1
  have u2 : fM_later_54 us ch T 5 (nI (abv (ticksN σ 200) 3)) 1 (0 + 1) f1 f2 f3 f4 sv B = fM_later_54 us ch T 4 (nI (abv (ticksN σ 200) 3)) 1 (0 + 1 + 1) h1 h2 h3 h4 sv B := g2
  have u3 : fM_later_54 us ch T 4 (nI (abv (ticksN σ 200) 3)) 1 (0 + 1 + 1) h1 h2 h3 h4 sv B = fM_later_54 us ch T 3 (nI (abv (ticksN σ 200) 3)) 1 (0 + 1 + 1 + 1) i1 i2 i3 i4 sv B := g3
  have u4 : fM_later_54 us ch T 3 (nI (abv (ticksN σ 200) 3)) 1 (0 + 1 + 1 + 1) i1 i2 i3 i4 sv B = fM_later_54 us ch T (1 + 1) (nI (abv (ticksN σ 200) 3)) 1 (0 + 1 + 1 + 1 + 1) j1 j2 j3 j4 sv B := g4
  rw [t1, t2, t3, t4, fM_later_6, if_pos (show (4 : Int32) ≤ 0 + 1 + 1 + 1 + 1 from by decide), ea, Option.bind_some]
  dsimp only
  rw [u1, u2, u3, u4, fM_later_54, if_pos (show (4 : Int32) ≤ 0 + 1 + 1 + 1 + 1 from by decide), if_neg (show ¬ (1 : Int32) = 0 from by decide)]
  rw [abv3]
end LTR
