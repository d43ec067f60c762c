section GNE
variable {σ τ κ : Nat → Nat} {d i j k w v x m n : Nat} {la cn us : Int32} {ch : Nat → Int32} {C G sv T B : Nat → Int32} {O : Nat → Int64} {rf zs ac sp ou : Int32} {mt N jT jO dy kp ik : Nat → Int32}
/-- a copy of the reference's row -/
theorem copy_E (σ : Nat → Nat) (T : Nat → Int32) : ∃ σ', fX4_copyState 220 220 (E σ) T 0 0 = some (E σ') ∧ ∀ x, x < 220 → σ' x = σ x := by
  obtain ⟨τ, -, rfl⟩ := E_sur T
  refine ⟨fun x => if x < 220 then σ x else τ x, ?_, fun x hx => if_pos hx⟩
  rw [show (0 : Int32) = nI 0 from rfl, copyState_E 220 220 (E σ) (E τ) (by omega) (by omega) (by omega) (by omega)]
  congr 1
  funext x
  unfold va_cpy E
  dsimp only
  by_cases g : x < 220
  · rw [if_pos (by omega), if_pos g, Nat.zero_add, Nat.sub_zero]
  · rw [if_neg (by omega), if_neg g]
/-- the class's answer about one that may be gone within two hundred ticks -/
theorem until_h (hO : OKS m κ σ) (hm : m ≤ 1000000000) (hi : i < σ 0) : ∃ B', fX3_ticksUntilGone_h la cn us ch (E κ) G sv T B (nI i) = some (nI (untN (gon i) 200 σ 0).1, B') := by
  have h0 := hO.2.1.1
  obtain ⟨κ', m', a1, a2, a3, a4⟩ := ahead_h (la := la) (cn := cn) (us := us) (ch := ch) (G := G) (sv := sv) (T := T) (B := B) hO.1 hO.2.1
  obtain ⟨g1, g2⟩ := gone_in hO.2.1 hO.2.2.1 (by have := hO.2.2.2; omega) hi a1 a4
  have hi2 : i < ticksN σ m' 0 := by rw [ticks_0]; exact hi
  have hw := (ticks_WF m' σ hO.2.1).2.2.2.1 i hi2
  refine ⟨E κ', ?_⟩
  unfold fX3_ticksUntilGone_h
  rw [a2, Option.bind_some]
  dsimp only
  rw [show (0 : Int32) = nI 0 from rfl, number_c (by omega) (by omega), Option.bind_some, a3.nm hi2 (by omega), Nat.add_zero]
  by_cases g : ticksN σ m' (40 + 18 * i) = 2
  · rw [if_pos (show nI (ticksN σ m' (40 + 18 * i)) = 2 from by rw [g]; rfl), show (5 : Int32) = nI 5 from rfl, number_c (by omega) (by omega), Option.bind_some, a3.nm hi2 (by omega), ← g1 g]
    show some (_, _) = some (_, _)
    have e2 : E κ 2 = nI (σ 1) := by
      show nI (κ 2) = nI (σ 1)
      rw [hO.1.2.2.1]; rfl
    rw [e2]
    rfl
  · rw [if_neg (show ¬ nI (ticksN σ m' (40 + 18 * i)) = 2 from fun e => g ((m_eq (b := 2) (by have := hw.1; omega) (by omega)).mp e)), g2 g]
    rfl
theorem until_r (hO : OKS m κ σ) (hm : m ≤ 1000000000) (hi : i < σ 0) : ∃ B', fX3_ticksUntilGone_r la cn us ch C G sv (E κ) B (nI i) = some (nI (untN (gon i) 200 σ 0).1, B') := by
  have h0 := hO.2.1.1
  obtain ⟨κ', m', a1, a2, a3, a4⟩ := ahead_r (la := la) (cn := cn) (us := us) (ch := ch) (C := C) (G := G) (sv := sv) (B := B) hO.1 hO.2.1
  obtain ⟨g1, g2⟩ := gone_in hO.2.1 hO.2.2.1 (by have := hO.2.2.2; omega) hi a1 a4
  have hi2 : i < ticksN σ m' 0 := by rw [ticks_0]; exact hi
  have hw := (ticks_WF m' σ hO.2.1).2.2.2.1 i hi2
  refine ⟨E κ', ?_⟩
  unfold fX3_ticksUntilGone_r
  rw [a2, Option.bind_some]
  dsimp only
  rw [show (0 : Int32) = nI 0 from rfl, number_c (by omega) (by omega), Option.bind_some, a3.nm hi2 (by omega), Nat.add_zero]
  by_cases g : ticksN σ m' (40 + 18 * i) = 2
  · rw [if_pos (show nI (ticksN σ m' (40 + 18 * i)) = 2 from by rw [g]; rfl), show (5 : Int32) = nI 5 from rfl, number_c (by omega) (by omega), Option.bind_some, a3.nm hi2 (by omega), ← g1 g]
    show some (_, _) = some (_, _)
    have e2 : E κ 2 = nI (σ 1) := by
      show nI (κ 2) = nI (σ 1)
      rw [hO.1.2.2.1]; rfl
    rw [e2]
    rfl
  · rw [if_neg (show ¬ nI (ticksN σ m' (40 + 18 * i)) = 2 from fun e => g ((m_eq (b := 2) (by have := hw.1; omega) (by omega)).mp e)), g2 g]
    rfl
theorem q_through (hO : OKS m κ σ) : ∃ r B' T', fX3_throughIn la cn us ch (E κ) G sv T B = some (r, B') ∧ fX4_throughIn rf zs ac sp ou mt (E σ) jT jO dy kp ik = some (r, 0, T') := by
  obtain ⟨σ', e1, hs⟩ := copy_E σ jT
  have hO' := hO.congr (σ' := σ') (fun _ _ => rfl) hs
  obtain ⟨κ', m', a1, a2, a3, a4⟩ := ahead_h (la := la) (cn := cn) (us := us) (ch := ch) (G := G) (sv := sv) (T := T) (B := B) hO'.1 hO'.2.1
  refine ⟨nI (untN thr 200 σ' 0).1, E κ', E (untN thr 200 σ' 0).2, ?_, ?_⟩
  · unfold fX3_throughIn
    rw [a2]; rfl
  · unfold fX4_throughIn
    rw [e1, Option.bind_some, show (-1 : Int32) = nI 4294967295 from by decide, untilT_E hO'.2.1]
    rfl
theorem q_goneIn (hO : OKS m κ σ) (hm : m ≤ 1000000000) (y : Int32) : ∃ e B' O' r T', fL_goneIn la cn us ch (E κ) G sv T B O y = some (e, B', O') ∧ fX4_goneIn rf zs ac sp ou mt (E σ) jT jO dy kp ik y = some (r, e, T') ∧ (e = 0 → O' 0 = r.toInt64) := by
  have hW := hO.2.1
  have h0 := hW.1
  unfold fL_goneIn fX3_goneIn fX4_goneIn
  rcases one_of σ y with ⟨i, hi, rfl⟩ | hi
  · rw [has_t hO.1 hW hi, isOne_t h0 hi, Option.bind_some, Option.bind_some, if_neg (show ¬ nI 1 = 0 from by decide), if_neg (show ¬ nI 1 = 0 from by decide)]
    obtain ⟨σ', e1, hs⟩ := copy_E σ jT
    have hO' := hO.congr (σ' := σ') (fun _ _ => rfl) hs
    have z0 : σ' 0 = σ 0 := hs 0 (by omega)
    have zi : σ' (40 + 18 * i) = σ (40 + 18 * i) := hs _ (by omega)
    have hc := (hW.2.2.2.1 i hi).1
    obtain ⟨B', e2⟩ := until_h (la := la) (cn := cn) (us := us) (ch := ch) (G := G) (sv := sv) (T := T) (B := B) hO' hm (show i < σ' 0 by omega)
    rw [e2, Option.bind_some]
    by_cases g : σ (40 + 18 * i) = 3
    · have en : (untN (gon i) 200 σ' 0).1 = 4294967295 := by
        rcases unt_spec (gon i) 200 σ' 0 with ⟨k, k1, k2, k3, k4⟩ | ⟨k1, k2⟩
        · have f := ticks_fix (j := i) (w := 0) (by omega) k σ' (by omega)
          rw [Nat.add_zero, zi, g] at f
          simp [gon, f] at k2
        · rw [k2]
      rw [en]
      refine ⟨0, B', vp_updL O 0 (nI 4294967295).toInt64, nI 4294967295, jT, rfl, ?_, fun _ => by simp [vp_updL]⟩
      show (some (0, 0)).bind _ = _
      rw [Option.bind_some]
      show (if (0 : Int32) = 0 then (fX4_isIn (E σ) (nI i) (nI 3)).bind _ else _) = _
      rw [if_pos rfl, isIn_E (by omega) (by omega) (by omega), beq_iff_eq.mpr g, Option.bind_some, if_neg (show ¬ nI (bN true) = 0 from by decide), show (-1 : Int32) = nI 4294967295 from by decide]
    · refine ⟨0, B', vp_updL O 0 (nI (untN (gon i) 200 σ' 0).1).toInt64, nI (untN (gon i) 200 σ' 0).1, E (untN (gon i) 200 σ' 0).2, rfl, ?_, fun _ => by simp [vp_updL]⟩
      show (some (0, 0)).bind _ = _
      rw [Option.bind_some]
      show (if (0 : Int32) = 0 then (fX4_isIn (E σ) (nI i) (nI 3)).bind _ else _) = _
      rw [if_pos rfl, isIn_E (by omega) (by omega) (by omega), beq_eq_false_iff_ne.mpr g, Option.bind_some, if_pos (show nI (bN false) = 0 from rfl), e1, Option.bind_some, untilG_E hO'.2.1 (by omega)]
      rfl
  · rw [has_f hO.1 hW hi, isOne_f h0 hi]
    exact ⟨1, B, O, 0, jT, rfl, rfl, fun z => absurd z (by decide)⟩
theorem q_ifHatched (hO : OKS m κ σ) (hm : m ≤ 1000000000) (y1 y2 y3 : Int32) : ∃ e T2 B' O' r T', fL_ifHatched la cn us ch (E κ) G sv T B O y1 y2 y3 = some (e, T2, B', O') ∧ fX4_ifHatched rf zs ac sp ou mt (E σ) jT jO dy kp ik y1 y2 y3 = some (r, e, T') ∧ (e = 0 → O' 0 = r.toInt64) := by
  have hW := hO.2.1
  have h0 := hW.1
  have n0 : ¬ nI 1 = 0 := by decide
  unfold fL_ifHatched fX3_ifHatched fX4_ifHatched
  rcases upto 36 y1 with ⟨c, hc, rfl⟩ | hc
  · rw [isRoom_c hc, isRoom_t hc, Option.bind_some, Option.bind_some, if_neg n0, if_neg n0]
    rcases upto 36 y2 with ⟨f, hf, rfl⟩ | hf
    · rw [isRoom_c hf, isRoom_t hf, Option.bind_some, Option.bind_some, if_neg n0, if_neg n0]
      rcases len_of y3 with ⟨n, ⟨hn1, hn⟩, rfl⟩ | hn
      · rw [isLength_c hn1 hn, isLength_t hn1 hn, Option.bind_some, Option.bind_some, if_neg n0, if_neg n0, isFull_c hO.1 hW, Option.bind_some]
        by_cases g : σ 0 = 10
        · rw [decide_eq_true (show 10 ≤ σ 0 by omega), if_neg (show ¬ nI (bN true) = 0 from by decide)]
          refine ⟨0, T, B, vp_updL O 0 (-1 : Int32).toInt64, -1, jT, rfl, ?_, fun _ => by simp [vp_updL]⟩
          show (some (0, 0)).bind _ = _
          rw [Option.bind_some]
          show (if (0 : Int32) = 0 then (if E σ 0 = 10 then _ else _) else _) = _
          rw [if_pos rfl, if_pos (show E σ 0 = 10 from by show nI (σ 0) = 10; rw [g]; rfl)]
        · rw [decide_eq_false (show ¬ 10 ≤ σ 0 by omega), if_pos (show nI (bN false) = 0 from rfl)]
          obtain ⟨σ', e1, hs⟩ := copy_E σ jT
          obtain ⟨δ, -, rfl⟩ := E_sur T
          obtain ⟨κ1, c1, c2⟩ := copy_c κ δ
          have hO' := hO.congr (κ' := κ1) (σ' := σ') c2 hs
          have z0 : σ' 0 = σ 0 := hs 0 (by omega)
          obtain ⟨t1, t2⟩ := add_t hO'.1 hO'.2.1 (show σ' 0 < 10 by omega) hc hf hn1 hn
          have hO2 : OKS m (addC κ1 (σ' 0) c f n) (hatN σ' c f n) := ⟨t2, hat_WF hO'.2.1 (by omega) hc hf hn1 hn, hat_GT hO'.2.2.1 _ _ _, by rw [hat_lo (x := 1) _ _ _ (by omega) (by omega)]; exact hO'.2.2.2⟩
          have hi : σ' 0 < hatN σ' c f n 0 := by rw [hat_0]; omega
          obtain ⟨B', e2⟩ := until_r (la := la) (cn := cn) (us := us) (ch := ch) (C := E κ) (G := G) (sv := sv) (B := B) hO2 hm hi
          refine ⟨0, E (addC κ1 (σ' 0) c f n), B', vp_updL O 0 (nI (untN (gon (σ' 0)) 200 (hatN σ' c f n) 0).1).toInt64, nI (untN (gon (σ' 0)) 200 (hatN σ' c f n) 0).1, E (untN (gon (σ' 0)) 200 (hatN σ' c f n) 0).2, ?_, ?_, fun _ => by simp [vp_updL]⟩
          · rw [c1, Option.bind_some, t1, Option.bind_some]
            dsimp only
            have ec : fX0_count (E (addC κ1 (σ' 0) c f n)) = some (nI (σ' 0 + 1)) := by
              show some (nI (addC κ1 (σ' 0) c f n 0)) = _
              rw [addC_0]
            rw [ec, Option.bind_some, show (1 : Int32) = nI 1 from rfl, m_sub (by omega), Nat.add_sub_cancel, e2]
            rfl
          · show (some (0, 0)).bind _ = _
            rw [Option.bind_some]
            show (if (0 : Int32) = 0 then (if E σ 0 = 10 then _ else _) else _) = _
            rw [if_pos rfl, if_neg (show ¬ E σ 0 = 10 from fun e => g ((m_eq (b := 10) (by omega) (by omega)).mp e)), e1, Option.bind_some, hatchOn_E (by omega), Option.bind_some]
            dsimp only
            rw [untilG_E hO2.2.1 hi]
            rfl
      · rw [isLength_cf hn, isLength_f hn]
        exact ⟨2, T, B, O, 0, jT, rfl, rfl, fun z => absurd z (by decide)⟩
    · rw [isRoom_cf hf, isRoom_f hf]
      exact ⟨1, T, B, O, 0, jT, rfl, rfl, fun z => absurd z (by decide)⟩
  · rw [isRoom_cf hc, isRoom_f hc]
    exact ⟨1, T, B, O, 0, jT, rfl, rfl, fun z => absurd z (by decide)⟩
end GNE
