/-! WHAT HOLDS IN EACH HOUSE -/
section HLD
abbrev OUT7 : Type := Option (Int32 × Int32 × Int32 × (Nat → Int32) × (Nat → Int32) × (Nat → Int32) × (Nat → Int32))
abbrev K9 : Type := Int32 → Int32 → Int32 → Int32 → Int32 → Int32 → Int32 → Int32 → Int32 → (Nat → Int32) → (Nat → Int32) → (Nat → Int32) → (Nat → Int32) → (Nat → Int32) → OUT7
variable {σ τ κ : Nat → Nat} {h : List (Nat → Nat)} {sl : Nat → Option (Nat → Nat)} {m n x a k p g i s : Nat} {la cn us : Int32} {ch C G sv T B IS : Nat → Int32} {v1 v2 v3 v4 v5 v6 v7 v8 v9 v10 z0 z1 : Int32} {kk : K9}
theorem near_c : ∀ a, a < 36 → ∀ b, b < 36 → fM_near (nI a) (nI b) = some (nI (bN (nrb a b))) := by decide +kernel
theorem nrb_sym (a b : Nat) : nrb a b = nrb b a := by
  unfold nrb
  rw [Bool.eq_iff_iff]
  simp only [Bool.or_eq_true, Bool.and_eq_true, beq_iff_eq]
  constructor <;> (rintro (⟨h1, h2⟩ | ⟨h1, h2⟩)) <;> omega
theorem thr_none (hW : WF σ) (hX : XF σ) (hr : rgdN σ ≠ 4294967295) (h2 : σ 2 ≠ 2) : (untN thr 200 σ 0).1 = 4294967295 := by
  have W2 := ticks_WF 200 σ hW
  obtain ⟨_, _, _, _, r4, _, _, _⟩ := ring_spec hW hX hr
  by_cases g : (untN thr 200 σ 0).1 = 4294967295
  · exact g
  · exfalso
    have ht := (unt_in thr σ).resolve_left g
    have e := (thr_iff (n := 200) hW (by omega)).mpr ⟨g, ht⟩
    have r1 := ring_gone hW hX hr h2 0 200
    have r1 : ticksN σ 200 (40 + 18 * rgdN σ) ≤ 1 := r1
    have e2 : cntN (ticksN σ 200) 0 + cntN (ticksN σ 200) 1 = 0 := by
      have := e
      unfold thr at this
      exact beq_iff_eq.mp this
    have z0 := cnt_zero (σ := ticksN σ 200) (w := 0) (ticksN σ 200 0) 0 (by unfold cntN at e2; omega) (rgdN σ) (Nat.zero_le _) (by rw [ticks_0]; omega)
    have z1 := cnt_zero (σ := ticksN σ 200) (w := 1) (ticksN σ 200 0) 0 (by unfold cntN at e2; omega) (rgdN σ) (Nat.zero_le _) (by rw [ticks_0]; omega)
    omega
theorem h836 (H : HS m σ h sl la cn C G sv) (hIS : ∀ w, w < 4 → IS w = nI (cntN σ w)) (h9 : v9 ≠ 1) (hz : z1 = z0) : ∃ B', fM_holds_836 us ch T (nI (lieS σ)) (nI (shS σ 36 0)) (nI (σ 3)) (nI (lieS σ)) (nI (rgdN σ)) v9 z0 z1 la cn C G sv B IS = some (1, la, cn, C, G, sv, B') := by
  have hW := H.ok.1
  have hX := H.ok.2.1
  have h0 := hW.1
  have hb2 := hW.2.1
  unfold fM_holds_836 fM_holds_978
  rw [if_pos hz, if_neg h9, if_pos rfl, k_about (y := 6) H 6 rfl (by omega), Option.bind_some]
  dsimp only
  rw [if_pos (show nI (abv σ 6) = nI (lieS σ) from rfl), k_about (y := 7) H 7 rfl (by omega), Option.bind_some]
  dsimp only
  rw [if_pos (show nI (abv σ 7) = nI (shS σ 36 0) from rfl), k_about (y := 9) H 9 rfl (by omega), Option.bind_some]
  dsimp only
  rw [if_pos (show nI (abv σ 9) = nI (σ 3) from rfl), k_about (y := 1) H 1 rfl (by omega), Option.bind_some]
  dsimp only
  rw [if_pos (show nI (abv σ 1) = IS 0 from (hIS 0 (by omega)).symm), k_about (y := 2) H 2 rfl (by omega), Option.bind_some]
  dsimp only
  rw [if_pos (show nI (abv σ 2) = IS 1 from (hIS 1 (by omega)).symm), k_about (y := 3) H 3 rfl (by omega), Option.bind_some]
  dsimp only
  rw [if_pos (show nI (abv σ 3) = IS 2 from (hIS 2 (by omega)).symm), k_about (y := 4) H 4 rfl (by omega), Option.bind_some]
  dsimp only
  rw [if_pos (show nI (abv σ 4) = IS 3 from (hIS 3 (by omega)).symm)]
  by_cases g : rgdN σ = 4294967295
  · rw [g, if_pos (show nI 4294967295 = -1 from by decide)]
    exact ⟨B, rfl⟩
  · have hr := (ring_none hW).resolve_left g
    rw [if_neg (nI_no (by omega)), k_about (y := 8) H 8 rfl (by omega), Option.bind_some]
    dsimp only
    by_cases g2 : σ 2 = 2
    · rw [if_pos (show nI (abv σ 8) = 2 from by show nI (σ 2) = 2; rw [g2]; rfl)]
      exact ⟨B, rfl⟩
    · rw [if_neg (show ¬ nI (abv σ 8) = 2 from fun e => g2 ((m_eq (a := σ 2) (b := 2) (by omega) (by omega)).mp e))]
      obtain ⟨B', e3⟩ := k_through (us := us) (ch := ch) (T := T) (B := B) H
      rw [e3, Option.bind_some]
      dsimp only
      rw [thr_none hW hX g g2, if_pos (show nI 4294967295 = -1 from by decide)]
      exact ⟨B', rfl⟩
/-- what is asked of the ring: its lowest, its size -/
def RQ (σ : Nat → Nat) (v9 : Int32) : Prop := (rgdN σ = 4294967295 ∧ v9 = -1) ∨ (rgdN σ ≠ 4294967295 ∧ ∃ z, 2 ≤ z ∧ z ≤ 10 ∧ v9 = nI z)
theorem h809 (H : HS m σ h sl la cn C G sv) (hIS : ∀ w, w < 4 → IS w = nI (cntN σ w)) (hq : RQ σ v9) : ∃ B', fM_holds_809 us ch T (nI (lieS σ)) (nI (shS σ 36 0)) (nI (σ 3)) (nI (lieS σ)) 1 (nI (rgdN σ)) v9 la cn C G sv B IS = some (1, la, cn, C, G, sv, B') := by
  have hW := H.ok.1
  have h0 := hW.1
  unfold fM_holds_809 fM_holds_825
  rw [if_neg (show ¬ (1 : Int32) = 0 from by decide)]
  rcases hq with ⟨g, rfl⟩ | ⟨g, z, z1, z2, rfl⟩
  · rw [if_pos (show nI (rgdN σ) = -1 from by rw [g]; decide), if_pos rfl]
    exact h836 H hIS (by decide) rfl
  · have hr := (ring_none hW).resolve_left g
    rw [if_neg (nI_no (by omega)), if_neg (nI_no (by omega))]
    exact h836 H hIS (fun e => by have := (m_eq (b := 1) (by omega) (by omega)).mp e; omega) rfl
theorem h716 (hm : m ≤ 1000000000) (H : HS m σ h sl la cn C G sv) (hIS : ∀ w, w < 4 → IS w = nI (cntN σ w)) (g : rgdN σ ≠ 4294967295) {z : Nat} (z2 : 2 ≤ z) (z10 : z ≤ 10) (hz : bkI σ (rgdN σ) z = rgdN σ) (hall : ∀ s, bkI σ (rgdN σ) s < σ 0 ∧ blk σ (bkI σ (rgdN σ) s) ≠ 4294967295) (hlow : ∀ s, 1 ≤ s → s < z → rgdN σ < bkI σ (rgdN σ) s) :
    ∀ d s n (B : Nat → Int32), d = z - s → s ≤ z → d < n → ∃ B', fM_holds_716 us ch T n (nI (lieS σ)) (nI (shS σ 36 0)) (nI (σ 3)) (nI (lieS σ)) 1 (nI (rgdN σ)) (nI z) (nI (bkI σ (rgdN σ) s)) (nI s) la cn C G sv B IS = some (1, la, cn, C, G, sv, B') := by
  have hW := H.ok.1
  have hX := H.ok.2.1
  have h0 := hW.1
  have hb2 := hW.2.1
  have hr := (ring_none hW).resolve_left g
  have hq : RQ σ (nI z) := Or.inr ⟨g, z, z2, z10, rfl⟩
  intro d
  induction d with
  | zero =>
    intro s n B hd hs hn
    obtain ⟨n, rfl⟩ : ∃ q, n = q + 1 := ⟨n - 1, by omega⟩
    rw [fM_holds_716, if_pos ((m_le (by omega) (by omega)).mpr (by omega))]
    exact h809 H hIS hq
  | succ d ih =>
    intro s n B hd hs hn
    obtain ⟨n, rfl⟩ : ∃ q, n = q + 1 := ⟨n - 1, by omega⟩
    obtain ⟨b1, b2⟩ := hall s
    obtain ⟨b3, -⟩ := hall (s + 1)
    have eb : blk σ (bkI σ (rgdN σ) s) = bkI σ (rgdN σ) (s + 1) := rfl
    -- behind the test: told, and not gone
    have next : ∃ B', fM_holds_769 (fM_holds_716 us ch T n) us ch T (nI (lieS σ)) (nI (shS σ 36 0)) (nI (σ 3)) (nI (lieS σ)) (nI (rgdN σ)) (nI z) (nI (bkI σ (rgdN σ) (s + 1))) (nI s) la cn C G sv B IS = some (1, la, cn, C, G, sv, B') := by
      unfold fM_holds_769 fM_holds_796 fM_holds_801
      rw [k_about (y := 8) H 8 rfl (by omega), Option.bind_some]
      dsimp only
      rw [s1p]
      by_cases g2 : σ 2 = 2
      · rw [if_pos (show nI (abv σ 8) = 2 from by show nI (σ 2) = 2; rw [g2]; rfl)]
        exact ih (s + 1) n B (by omega) (by omega) (by omega)
      · rw [if_neg (show ¬ nI (abv σ 8) = 2 from fun e => g2 ((m_eq (a := σ 2) (b := 2) (by omega) (by omega)).mp e))]
        obtain ⟨B2, e2⟩ := k_gone (us := us) (ch := ch) (T := T) (B := B) (y := nI (bkI σ (rgdN σ) (s + 1))) (z := 0) (w := 0) H hm (bkI σ (rgdN σ) (s + 1)) b3 rfl
        have r1 := ring_gone hW hX g g2 (s + 1) 200
        have e3 : gon (bkI σ (rgdN σ) (s + 1)) (ticksN σ 200) = false := by
          unfold gon
          exact beq_eq_false_iff_ne.mpr (by omega)
        rw [e2, Option.bind_some]
        dsimp only
        rw [gon_no.mpr e3, if_pos (show nI 4294967295 = -1 from by decide)]
        exact ih (s + 1) n B2 (by omega) (by omega) (by omega)
    rw [fM_holds_716, if_neg (fun e => by have := (m_le (by omega) (by omega)).mp e; omega), if_neg (show ¬ (1 : Int32) = 0 from by decide), k_waits H (bkI σ (rgdN σ) s) b1 rfl, Option.bind_some]
    dsimp only
    rw [eb, if_neg (nI_no (by omega))]
    by_cases l : s + 1 < z
    · rw [if_pos ((m_lt (by omega) (by omega)).mpr (hlow (s + 1) (by omega) l))]
      exact next
    · have es : s + 1 = z := by omega
      have er : bkI σ (rgdN σ) (s + 1) = rgdN σ := by rw [es]; exact hz
      rw [if_neg (fun e => by have := (m_lt (by omega) (by omega)).mp e; omega), if_pos (show nI s = nI z - 1 from by rw [show (1 : Int32) = nI 1 from rfl, m_sub (by omega)]; congr 1; omega), if_pos (by rw [er])]
      exact next
theorem h687 (hm : m ≤ 1000000000) (H : HS m σ h sl la cn C G sv) (hIS : ∀ w, w < 4 → IS w = nI (cntN σ w)) : ∃ B', fM_holds_687 us ch T (nI (lieS σ)) (nI (shS σ 36 0)) (nI (σ 3)) (nI (lieS σ)) 1 la cn C G sv B IS = some (1, la, cn, C, G, sv, B') := by
  have hW := H.ok.1
  have hX := H.ok.2.1
  unfold fM_holds_687
  rw [k_ring0 H, Option.bind_some]
  dsimp only
  rw [k_ring1 H, Option.bind_some]
  dsimp only
  by_cases g : rgdN σ = 4294967295
  · have e : rsz σ = 4294967295 := by unfold rsz; rw [if_pos g]
    have step : ∀ q, fM_holds_716 us ch T (q + 1) (nI (lieS σ)) (nI (shS σ 36 0)) (nI (σ 3)) (nI (lieS σ)) 1 (nI (rgdN σ)) (nI (rsz σ)) (nI (rgdN σ)) 0 la cn C G sv B IS = fM_holds_809 us ch T (nI (lieS σ)) (nI (shS σ 36 0)) (nI (σ 3)) (nI (lieS σ)) 1 (nI (rgdN σ)) (nI (rsz σ)) la cn C G sv B IS := fun q => by
      rw [fM_holds_716, if_pos (show nI (rsz σ) ≤ 0 from by rw [e]; decide)]
    obtain ⟨B', e2⟩ := h809 (us := us) (ch := ch) (T := T) (B := B) (v9 := nI (rsz σ)) H hIS (Or.inl ⟨g, by rw [e]; decide⟩)
    exact ⟨B', (step 11).trans e2⟩
  · obtain ⟨z, r1, r2, r3, r4, r5, r6, r7⟩ := ring_spec hW hX g
    have e : rsz σ = z := by
      unfold rsz rz
      rw [if_neg g, r1, if_neg (by omega)]
    rw [e]
    exact h716 hm H hIS g r2 r3 r5 r6 r7 z 0 12 B (by omega) (by omega) (by omega)
/-! one caterpillar -/
theorem h635 (H : HS m σ h sl la cn C G sv) (hi : i < σ 0) (hz : z1 = z0) : fM_holds_635 kk us ch T v1 v2 v3 v4 v5 (nI i) (nI (σ (40 + 18 * i))) (nI (wants σ i)) (nI (blk σ i)) z0 z1 la cn C G sv B IS = kk v1 v2 v3 v4 v5 1 (nI (i + 1)) la cn C G sv B IS := by
  have hW := H.ok.1
  have hX := H.ok.2.1
  have h0 := hW.1
  have hc := hW.2.2.2.1 i hi
  have c0 := hc.1
  have hw := wants_in hW hi
  have hb := blk_in (i := i) hW
  unfold fM_holds_635 fM_holds_674 fM_holds_679
  rw [s1p, if_pos hz, if_neg (fun e => blk_ne hW hX hi ((m_eq (by omega) (by omega)).mp e))]
  by_cases g1 : σ (40 + 18 * i) = 1
  · rw [if_pos (show nI (σ (40 + 18 * i)) = 1 from by rw [g1]; rfl)]
    by_cases gn : wants σ i = 4294967295
    · rw [if_pos (show nI (wants σ i) = -1 from by rw [gn]; decide)]
    · have l1 := hc.2.2.2.2.2.2.2.1 g1
      have he : eats σ i = false := by
        cases ge : eats σ i
        · rfl
        · exact absurd ((wants_no hW hi (by omega)).mpr ge) gn
      have r0 : σ (40 + 18 * i + 9) < 36 := hc.2.2.2.2.2.2.1 0 (by omega)
      have hn := (nr_dst hW hi g1 he).2
      rw [← wants_out g1 he] at hn
      rw [if_neg (nI_no (by omega)), k_lies (z := 0) H i 0 hi rfl rfl (by omega), Option.bind_some]
      dsimp only
      rw [show σ (40 + 18 * i + (9 + 0)) = σ (40 + 18 * i + 9) from rfl, near_c _ (by omega) _ r0, Option.bind_some, hn, if_neg (show ¬ nI (bN true) = 0 from by decide)]
  · rw [if_neg (show ¬ nI (σ (40 + 18 * i)) = 1 from fun e => g1 ((m_eq (b := 1) (by omega) (by omega)).mp e))]
theorem h611 (H : HS m σ h sl la cn C G sv) (hi : i < σ 0) (hz : z1 = z0) : fM_holds_611 kk us ch T v1 v2 v3 v4 v5 (nI i) (nI (σ (40 + 18 * i))) (nI (wants σ i)) (nI (blk σ i)) z0 z1 la cn C G sv B IS = kk v1 v2 v3 v4 v5 1 (nI (i + 1)) la cn C G sv B IS := by
  have hW := H.ok.1
  have hw := wants_in hW hi
  unfold fM_holds_611
  rw [if_pos hz]
  by_cases gn : wants σ i = 4294967295
  · have eb : blk σ i = 4294967295 := by unfold blk; rw [if_pos gn]
    rw [if_pos (show nI (wants σ i) = -1 from by rw [gn]; decide)]
    exact h635 H hi (by rw [eb]; decide)
  · have eb : blk σ i = tk σ (wants σ i) := by unfold blk; rw [if_neg gn]
    rw [if_neg (nI_no (by omega)), k_room0 H (wants σ i) (by omega) rfl, Option.bind_some]
    dsimp only
    exact h635 H hi (by rw [eb])
theorem h572 (H : HS m σ h sl la cn C G sv) (hi : i < σ 0) : fM_holds_572 kk us ch T v1 v2 v3 v4 v5 (nI i) (nI (σ (40 + 18 * i))) (nI (wants σ i)) (nI (blk σ i)) (nI (bN (decide (wants σ i = 4294967295)))) la cn C G sv B IS = kk v1 v2 v3 v4 v5 1 (nI (i + 1)) la cn C G sv B IS := by
  have hW := H.ok.1
  have hc := hW.2.2.2.1 i hi
  have c0 := hc.1
  unfold fM_holds_572 fM_holds_606 fM_holds_610
  by_cases g2 : 1 < σ (40 + 18 * i)
  · have e : wants σ i = 4294967295 := by
      by_cases z : wants σ i = 4294967295
      · exact z
      · have := wants_1 z; omega
    rw [if_pos (show (1 : Int32) < nI (σ (40 + 18 * i)) from (m_lt (a := 1) (by omega) (by omega)).mpr g2), decide_eq_true e]
    exact h611 H hi rfl
  · rw [if_neg (show ¬ (1 : Int32) < nI (σ (40 + 18 * i)) from fun e => g2 ((m_lt (a := 1) (by omega) (by omega)).mp e))]
    have wn := wants_no hW hi (by omega)
    by_cases g1 : σ (40 + 18 * i) = 1
    · have l1 := hc.2.2.2.2.2.2.2.1 g1
      have r0 : σ (40 + 18 * i + (9 + 0)) < 36 := hc.2.2.2.2.2.2.1 0 (by omega)
      have r9 : σ (40 + 18 * i + 9) < 36 := r0
      have l7 := hc.2.2.2.2.1
      rw [if_pos (show nI (σ (40 + 18 * i)) = 1 from by rw [g1]; rfl), k_lies (z := 0) H i 0 hi rfl rfl (by omega), Option.bind_some]
      dsimp only
      rw [k_cat (z := 7) H i 7 hi rfl rfl (by omega), Option.bind_some]
      dsimp only
      by_cases q : σ (40 + 18 * i + 9) = σ (40 + 18 * i + 7)
      · have ge : eats σ i = true := by
          simp only [eats, Bool.and_eq_true, beq_iff_eq]
          exact ⟨g1, q⟩
        rw [if_pos (show nI (σ (40 + 18 * i + (9 + 0))) = nI (σ (40 + 18 * i + 7)) from by rw [← q]), decide_eq_true (wn.mpr ge)]
        exact h611 H hi rfl
      · have ge : ¬ wants σ i = 4294967295 := fun e => by
          have := wn.mp e
          simp only [eats, Bool.and_eq_true, beq_iff_eq] at this
          exact q this.2
        rw [if_neg (show ¬ nI (σ (40 + 18 * i + (9 + 0))) = nI (σ (40 + 18 * i + 7)) from fun e => q ((m_eq (by omega) (by omega)).mp e)), decide_eq_false ge]
        exact h611 H hi rfl
    · have ge : ¬ wants σ i = 4294967295 := fun e => by
        have := wn.mp e
        exact g1 (eats_1 this)
      rw [if_neg (show ¬ nI (σ (40 + 18 * i)) = 1 from fun e => g1 ((m_eq (b := 1) (by omega) (by omega)).mp e)), decide_eq_false ge]
      exact h611 H hi rfl
theorem h525 (H : HS m σ h sl la cn C G sv) (hi : i < σ 0) : fM_holds_525 kk us ch T v1 v2 v3 v4 v5 (nI i) (nI (σ (40 + 18 * i))) la cn C G sv B IS = kk v1 v2 v3 v4 v5 1 (nI (i + 1)) la cn C G sv B IS := by
  have hW := H.ok.1
  have hw := wants_in hW hi
  have key := h572 (kk := kk) (us := us) (ch := ch) (T := T) (B := B) (IS := IS) (v1 := v1) (v2 := v2) (v3 := v3) (v4 := v4) (v5 := v5) H hi
  unfold fM_holds_525 fM_holds_530
  rw [k_next H i hi rfl, Option.bind_some]
  dsimp only
  rw [k_waits H i hi rfl, Option.bind_some]
  dsimp only
  rw [if_neg (show ¬ (1 : Int32) = 0 from by decide)]
  by_cases gn : wants σ i = 4294967295
  · rw [decide_eq_true gn] at key
    rw [if_pos (show nI (wants σ i) = -1 from by rw [gn]; decide)]
    exact key
  · rw [decide_eq_false gn] at key
    rw [if_neg (nI_no (by omega))]
    exact key
theorem h492 (H : HS m σ h sl la cn C G sv) (hi : i < σ 0) : fM_holds_492 kk us ch T v1 v2 v3 v4 v5 (nI i) (nI (σ (40 + 18 * i))) (nI (σ (40 + 18 * i + 3))) la cn C G sv B IS = kk v1 v2 v3 v4 v5 1 (nI (i + 1)) la cn C G sv B IS := by
  have hW := H.ok.1
  have hc := hW.2.2.2.1 i hi
  have hx := H.ok.2.1.1 i hi
  unfold fM_holds_492
  by_cases g1 : σ (40 + 18 * i) = 1
  · rw [if_pos (show nI (σ (40 + 18 * i)) = 1 from by rw [g1]; rfl)]
    by_cases g3 : σ (40 + 18 * i + 3) = 0
    · rw [if_pos (show nI (σ (40 + 18 * i + 3)) = 0 from by rw [g3]; rfl)]
      exact h525 H hi
    · have l1 := hc.2.2.2.2.2.2.2.1 g1
      have e := hx.2.2.2.2.1 g1 (by omega)
      have l3 : σ (40 + 18 * i + 3) ≤ 9 := by have := hc.2.1; have := hc.2.2.2.2.2.1; omega
      rw [if_neg (show ¬ nI (σ (40 + 18 * i + 3)) = 0 from fun e => g3 ((m_eq (b := 0) (by omega) (by omega)).mp e)), k_lies (z := 0) H i 0 hi rfl rfl (by omega), Option.bind_some]
      dsimp only
      rw [k_cat (z := 7) H i 7 hi rfl rfl (by omega), Option.bind_some]
      dsimp only
      rw [if_pos (show nI (σ (40 + 18 * i + (9 + 0))) = nI (σ (40 + 18 * i + 7)) from by rw [← e])]
      exact h525 H hi
  · rw [if_neg (show ¬ nI (σ (40 + 18 * i)) = 1 from fun e => g1 ((m_eq (b := 1) (by have := hc.1; omega) (by omega)).mp e))]
    exact h525 H hi
theorem h451 (H : HS m σ h sl la cn C G sv) (hi : i < σ 0) : fM_holds_451 kk us ch T v1 v2 v3 v4 v5 1 (nI i) (nI (σ (40 + 18 * i))) (nI (σ (40 + 18 * i + 1))) (nI (σ (40 + 18 * i + 2))) (nI (σ (40 + 18 * i + 3))) la cn C G sv B IS = kk v1 v2 v3 v4 v5 1 (nI (i + 1)) la cn C G sv B IS := by
  have hW := H.ok.1
  have hc := hW.2.2.2.1 i hi
  have hx := H.ok.2.1.1 i hi
  have l9 := CW_lies hc
  have l2 : σ (40 + 18 * i + 2) ≤ 9 := by have := hc.2.1; have := hc.2.2.2.2.2.1; omega
  unfold fM_holds_451
  rw [if_neg (show ¬ (1 : Int32) = 0 from by decide)]
  by_cases g1 : σ (40 + 18 * i) = 1
  · rw [if_pos (show nI (σ (40 + 18 * i)) = 1 from by rw [g1]; rfl)]
    by_cases g2 : σ (40 + 18 * i + 2) = 0
    · rw [if_pos (show nI (σ (40 + 18 * i + 2)) = 0 from by rw [g2]; rfl)]
      exact h492 H hi
    · have l1 := hc.2.2.2.2.2.2.2.1 g1
      have e := hx.2.2.2.1 g1 (by omega)
      rw [if_neg (show ¬ nI (σ (40 + 18 * i + 2)) = 0 from fun e => g2 ((m_eq (b := 0) (by omega) (by omega)).mp e)), show (1 : Int32) = nI 1 from rfl, m_sub l1, k_lies H i (σ (40 + 18 * i + 1) - 1) hi rfl rfl (by omega), Option.bind_some]
      dsimp only
      rw [k_cat (z := 6) H i 6 hi rfl rfl (by omega), Option.bind_some]
      dsimp only
      rw [if_pos (by rw [e])]
      exact h492 H hi
  · rw [if_neg (show ¬ nI (σ (40 + 18 * i)) = 1 from fun e => g1 ((m_eq (b := 1) (by have := hc.1; omega) (by omega)).mp e))]
    exact h492 H hi
theorem h375 (H : HS m σ h sl la cn C G sv) (hi : i < σ 0) : ∀ d p n, d = σ (40 + 18 * i + 1) - p → p ≤ σ (40 + 18 * i + 1) → d < n → fM_holds_375 kk us ch T n v1 v2 v3 v4 v5 1 (nI i) (nI (σ (40 + 18 * i))) (nI (σ (40 + 18 * i + 1))) (nI (σ (40 + 18 * i + 2))) (nI (σ (40 + 18 * i + 3))) (nI p) la cn C G sv B IS = kk v1 v2 v3 v4 v5 1 (nI (i + 1)) la cn C G sv B IS := by
  have hW := H.ok.1
  have hX := H.ok.2.1
  have h0 := hW.1
  have hc := hW.2.2.2.1 i hi
  have l9 := CW_lies hc
  intro d
  induction d with
  | zero =>
    intro p n hd hp hn
    obtain ⟨n, rfl⟩ : ∃ q, n = q + 1 := ⟨n - 1, by omega⟩
    rw [fM_holds_375, if_pos ((m_le (by omega) (by omega)).mpr (by omega))]
    exact h451 H hi
  | succ d ih =>
    intro p n hd hp hn
    obtain ⟨n, rfl⟩ : ∃ q, n = q + 1 := ⟨n - 1, by omega⟩
    have hp1 : p < σ (40 + 18 * i + 1) := by omega
    have r1 := hc.2.2.2.2.2.2.1 p hp1
    have et : tk σ (σ (40 + 18 * i + (9 + p))) = i := tk_of hW hi (occ_iff.mpr ⟨p, hp1, rfl⟩)
    have next : fM_holds_438 kk (fM_holds_375 kk us ch T n) v1 v2 v3 v4 v5 (nI i) (nI (σ (40 + 18 * i))) (nI (σ (40 + 18 * i + 1))) (nI (σ (40 + 18 * i + 2))) (nI (σ (40 + 18 * i + 3))) (nI p) la cn C G sv B IS = kk v1 v2 v3 v4 v5 1 (nI (i + 1)) la cn C G sv B IS := by
      unfold fM_holds_438 fM_holds_443
      rw [s1p]
      exact ih (p + 1) n (by omega) (by omega) (by omega)
    rw [fM_holds_375, if_neg (fun e => by have := (m_le (by omega) (by omega)).mp e; omega), if_neg (show ¬ (1 : Int32) = 0 from by decide), k_lies H i p hi rfl rfl hp1, Option.bind_some]
    dsimp only
    rw [k_room0 H _ r1 rfl, Option.bind_some]
    dsimp only
    rw [et, if_pos rfl]
    by_cases g : p = 0
    · rw [if_pos (show nI p = 0 from by rw [g]; rfl)]
      exact next
    · obtain ⟨q, rfl⟩ : ∃ q, p = q + 1 := ⟨p - 1, by omega⟩
      have r2 := hc.2.2.2.2.2.2.1 q (by omega)
      have hn := row_near hW hX hi hp1
      rw [nrb_sym] at hn
      rw [if_neg (show ¬ nI (q + 1) = 0 from fun e => g ((m_eq (b := 0) (by omega) (by omega)).mp e)), show nI (q + 1) - 1 = nI q from by rw [show (1 : Int32) = nI 1 from rfl, m_sub (by omega), Nat.add_sub_cancel], k_lies H i q hi rfl rfl (by omega), Option.bind_some]
      dsimp only
      rw [near_c _ r1 _ r2, hn, Option.bind_some, if_neg (show ¬ nI (bN true) = 0 from by decide)]
      exact next
end HLD
