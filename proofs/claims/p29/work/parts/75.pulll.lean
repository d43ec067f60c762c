/-! THE PULL THAT HELPS MOST -/
section PLL
variable {σ τ κ : Nat → Nat} {h : List (Nat → Nat)} {sl : Nat → Option (Nat → Nat)} {m n x a k p g i best mo : Nat} {la cn us qla qcn qus : Int32} {ch C G sv T B qch qC qG qsv qT qB : Nat → Int32} {v5 v6 v7 v8 v9 v10 z0 : Int32}
def PR (m : Nat) (σ : Nat → Nat) (sl : Nat → Option (Nat → Nat)) (sv qsv : Nat → Int32) (o : Option (Int32 × Int32 × Int32 × (Nat → Int32) × (Nat → Int32) × (Nat → Int32) × (Nat → Int32) × (Nat → Int32) × Int32 × Int32 × (Nat → Int32) × (Nat → Int32) × (Nat → Int32) × (Nat → Int32))) : Prop :=
  ∃ h' la' cn' C' G' T' B' qla' qcn' qC' qG' qB', o = some (1, la', cn', C', G', sv, T', B', qla', qcn', qC', qG', qsv, qB') ∧ HS m σ h' sl la' cn' C' G' sv ∧ HS m σ h' sl qla' qcn' qC' qG' qsv
theorem p374 (hi : i < σ 0) (h1 : σ (40 + 18 * i) ≤ 1) (H : HS m τ (σ :: h) sl la cn C G sv) (Q : HS m τ (σ :: h) sl qla qcn qC qG qsv) : PR m σ sl sv qsv (fM_pulls_374 us ch qus qch qT (nI i) la cn C G sv T B qla qcn qC qG qsv qB) := by
  obtain ⟨a1, a2, a3, a4, e1, H1⟩ := k_undo (us := us) (ch := ch) (T := T) (B := B) (y := 0) (z := 0) (w := 0) H
  obtain ⟨b1, b2, b3, b4, e2, Q1⟩ := k_undo (us := qus) (ch := qch) (T := qT) (B := qB) (y := 0) (z := 0) (w := 0) Q
  have l1 := H1.1
  refine ⟨h, a1, a2, a3, a4, T, B, b1, b2, b3, b4, qB, ?_, H1, Q1⟩
  unfold fM_pulls_374
  rw [e1, Option.bind_some]
  dsimp only
  rw [thrown_ok (by omega), Option.bind_some, if_pos rfl, e2, Option.bind_some]
  dsimp only
  rw [thrown_ok (by omega), Option.bind_some, if_pos rfl, k_cat (z := 0) H1 i 0 hi rfl rfl (by omega), Option.bind_some]
  dsimp only
  rw [Nat.add_zero, if_neg (show ¬ (2 : Int32) ≤ nI (σ (40 + 18 * i)) from fun e => by have := (m_le (a := 2) (by omega) (by omega)).mp e; omega)]
/-- the one pulled, beside the best -/
theorem p271 (hm : m ≤ 900000000) (hi : i < σ 0) (h1 : σ (40 + 18 * i) ≤ 1) (hB : BP σ (σ 0) best mo) (hb0 : σ 0 ≤ 10) (hv6 : best ≠ 4294967295 → v6 = nI (gP σ best)) (hW : WF σ) (hv10 : v10 ≠ -9999003) (H : HS m (pulN σ i) (σ :: h) sl la cn C G sv) (Q : HS m (pulN σ i) (σ :: h) sl qla qcn qC qG qsv) : PR (m + 240) σ sl sv qsv (fM_pulls_271 us ch qus qch qT (nI best) (nI (cntN (ticksN σ 200) 2)) v6 (nI i) (nI (bN (gon i (ticksN σ 200)))) v10 1 la cn C G sv T B qla qcn qC qG qsv qB) := by
  obtain ⟨a1, a2, a3, a4, e1, H1⟩ := later_c (us := us) (ch := ch) (T := T) (B := B) H hm
  obtain ⟨b1, b2, b3, b4, e2, Q1⟩ := later_c (us := qus) (ch := qch) (T := qT) (B := qB) Q hm
  have H1 : HS (m + 240) (pulN σ i) (σ :: List.take 9 (List.take 10 (List.take 11 (List.take 12 h)))) sl a1 a2 a3 a4 sv := H1
  have Q1 : HS (m + 240) (pulN σ i) (σ :: List.take 9 (List.take 10 (List.take 11 (List.take 12 h)))) sl b1 b2 b3 b4 qsv := Q1
  have fin := p374 (us := us) (ch := ch) (T := T) (B := B) (qus := qus) (qch := qch) (qT := qT) (qB := qB) hi h1 H1 Q1
  have W2 := ticks_WF 200 σ hW
  have c2 := cntN_le10 (w := 2) W2
  obtain ⟨o1, o2⟩ := others W2 (show i < 10 by omega)
  have egb : gb (ticksN σ 200) i = gon i (ticksN σ 200) := by
    unfold gb gon
    rw [ticks_0, decide_eq_true hi, Bool.true_and]
  rw [egb] at o2
  have ho : nI (cntN (ticksN σ 200) 2) - nI (bN (gon i (ticksN σ 200))) = nI (oth σ i) := m_sub o2
  have lo : oth σ i ≤ 10 := by unfold oth; omega
  have lg : gP σ i ≤ 10 := cntN_le10 (ticks_WF 200 _ (pull_WF hW hi))
  unfold fM_pulls_271
  rw [if_neg hv10, e1, Option.bind_some]
  dsimp only
  rw [if_neg (show ¬ (1 : Int32) = 0 from by decide), e2, Option.bind_some]
  dsimp only
  rw [if_pos rfl, ho, show cntN (ticksN (pulN σ i) 200) 2 = gP σ i from rfl]
  rcases hB with ⟨c1, -, c3⟩ | ⟨c1, c2, -, c4, c5⟩
  · have := c3 i hi h1
    rw [if_pos (show nI best = -1 from by rw [c1]; decide), if_neg (fun e => by have := (m_lt (by omega) (by omega)).mp e; omega)]
    exact fin
  · have lb : gP σ best ≤ 10 := cntN_le10 (ticks_WF 200 _ (pull_WF hW c1))
    rw [if_neg (nI_no (by omega)), hv6 (by omega)]
    by_cases z1 : gP σ i ≤ oth σ i
    · rw [if_pos ((m_le (by omega) (by omega)).mpr z1)]
      exact fin
    · rw [if_neg (fun e => z1 ((m_le (by omega) (by omega)).mp e))]
      by_cases z2 : gP σ i < gP σ best
      · rw [if_pos ((m_lt (by omega) (by omega)).mpr z2)]
        exact fin
      · rw [if_neg (fun e => z2 ((m_lt (by omega) (by omega)).mp e))]
        rcases c5 i hi h1 with y | y | ⟨y1, y2⟩
        · omega
        · omega
        · rw [if_pos (by rw [y1]), if_neg (fun e => by have := (m_lt (by omega) (by omega)).mp e; omega)]
          exact fin
theorem p232 (hm : m ≤ 900000000) (hi : i < σ 0) (hB : BP σ (σ 0) best mo) (hb0 : σ 0 ≤ 10) (hv6 : best ≠ 4294967295 → v6 = nI (gP σ best)) (hW : WF σ) (H : HS m σ h sl la cn C G sv) (Q : HS m σ h sl qla qcn qC qG qsv) : PR (m + 240) σ sl sv qsv (fM_pulls_232 us ch qus qch qT (nI best) (nI (cntN (ticksN σ 200) 2)) v6 1 (nI i) (nI (bN (gon i (ticksN σ 200)))) la cn C G sv T B qla qcn qC qG qsv qB) := by
  have hc := hW.2.2.2.1 i hi
  have l9 := CW_lies hc
  have c0 := hc.1
  unfold fM_pulls_232
  by_cases h1 : σ (40 + 18 * i) ≤ 1
  · obtain ⟨a1, a2, a3, a4, e1, H1⟩ := k_pull (us := us) (ch := ch) (T := T) (B := B) (z := 0) (w := 0) H i hi h1 rfl
    obtain ⟨b1, b2, b3, b4, e2, Q1⟩ := k_pull (us := qus) (ch := qch) (T := qT) (B := qB) (z := 0) (w := 0) Q i hi h1 rfl
    rw [e1, Option.bind_some]
    dsimp only
    rw [if_neg (show ¬ (1 : Int32) = 0 from by decide), e2, Option.bind_some]
    dsimp only
    rw [if_pos rfl]
    exact p271 hm hi h1 hB hb0 hv6 hW (nI_nn (by omega) (by decide)) H1 Q1
  · have e1 := k_pull_o (us := us) (ch := ch) (T := T) (B := B) (z := 0) (w := 0) H i hi (by omega) rfl
    have e2 := k_pull_o (us := qus) (ch := qch) (T := qT) (B := qB) (z := 0) (w := 0) Q i hi (by omega) rfl
    rw [e1, Option.bind_some]
    dsimp only
    rw [if_neg (show ¬ (1 : Int32) = 0 from by decide), e2, Option.bind_some]
    dsimp only
    rw [if_pos rfl]
    unfold fM_pulls_271
    rw [if_pos rfl, if_neg (show ¬ (1 : Int32) = 0 from by decide), k_cat (z := 0) H i 0 hi rfl rfl (by omega), Option.bind_some]
    dsimp only
    rw [Nat.add_zero (40 + 18 * i), if_neg (show ¬ nI (σ (40 + 18 * i)) ≤ 1 from fun e => by have := (m_le (b := 1) (by omega) (by omega)).mp e; omega)]
    exact ⟨h, la, cn, C, G, T, B, qla, qcn, qC, qG, qB, rfl, H.mono (by omega), Q.mono (by omega)⟩
theorem p208 (hm : m ≤ 900000000) (hx : x < 2147483648) (h0 : 0 < σ 0) (hB : BP σ (σ 0) best mo) (hv6 : best ≠ 4294967295 → v6 = nI (gP σ best)) (H : HS m σ h sl la cn C G sv) (Q : HS m σ h sl qla qcn qC qG qsv) : PR (m + 240) σ sl sv qsv (fM_pulls_208 us ch qus qch qT (nI x) (nI (σ 0)) (nI best) (nI (cntN (ticksN σ 200) 2)) v6 1 la cn C G sv T B qla qcn qC qG qsv qB) := by
  have hW := H.ok.1
  have hb0 := hW.1
  have lt : x % σ 0 < σ 0 := Nat.mod_lt _ h0
  have zn : ¬ nI (σ 0) = 0 := fun e => by have := (m_eq (b := 0) (by omega) (by omega)).mp e; omega
  obtain ⟨B2, e2⟩ := k_gone (us := us) (ch := ch) (T := T) (B := B) (y := nI (x % σ 0)) (z := 0) (w := 0) H (by omega) (x % σ 0) lt rfl
  have key := p232 (us := us) (ch := ch) (T := T) (B := B2) (qus := qus) (qch := qch) (qT := qT) (qB := qB) hm lt hB hb0 hv6 hW H Q
  have gn := gon_no (σ := σ) (i := x % σ 0)
  unfold fM_pulls_208
  rw [gz_in (decide_eq_true zn), md' (σ 0) (by omega) h0 (by omega), e2, Option.bind_some]
  dsimp only
  by_cases z : (untN (gon (x % σ 0)) 200 σ 0).1 = 4294967295
  · rw [gn.mp z] at key
    rw [if_pos (show nI (untN (gon (x % σ 0)) 200 σ 0).1 = -1 from by rw [z]; decide)]
    exact key
  · have ht := (unt_in (gon (x % σ 0)) σ).resolve_left z
    have e : gon (x % σ 0) (ticksN σ 200) = true := by
      cases q : gon (x % σ 0) (ticksN σ 200)
      · exact absurd (gn.mpr q) z
      · rfl
    rw [e] at key
    rw [if_neg (nI_no (by omega))]
    exact key
theorem p95 (hm : m ≤ 900000000 - 240) (hx : x < 2147483648) (h0 : 0 < σ 0) (hB : BP σ (σ 0) best mo) (hb : best ≠ 4294967295) (H : HS m σ h sl la cn C G sv) (Q : HS m σ h sl qla qcn qC qG qsv) : PR (m + 480) σ sl sv qsv (fM_pulls_95 us ch qus qch qT (nI x) (nI (σ 0)) (nI best) (nI (cntN (ticksN σ 200) 2)) 1 (nI (bN (gon best (ticksN σ 200)))) la cn C G sv T B qla qcn qC qG qsv qB) := by
  have hW := H.ok.1
  have hb0 := hW.1
  obtain ⟨c1, c2, c4⟩ : best < σ 0 ∧ σ (40 + 18 * best) ≤ 1 ∧ oth σ best < gP σ best := by
    rcases hB with ⟨c1, _⟩ | ⟨c1, c2, -, c4, _⟩
    · exact absurd c1 hb
    · exact ⟨c1, c2, c4⟩
  have l9 := CW_lies (hW.2.2.2.1 best c1)
  obtain ⟨a1, a2, a3, a4, e1, H1⟩ := k_pull (us := us) (ch := ch) (T := T) (B := B) (z := 0) (w := 0) H best c1 c2 rfl
  obtain ⟨b1, b2, b3, b4, e2, Q1⟩ := k_pull (us := qus) (ch := qch) (T := qT) (B := qB) (z := 0) (w := 0) Q best c1 c2 rfl
  obtain ⟨d1, d2, d3, d4, e3, H2⟩ := later_c (us := us) (ch := ch) (T := T) (B := B) H1 (by omega)
  obtain ⟨f1, f2, f3, f4, e4, Q2⟩ := later_c (us := qus) (ch := qch) (T := qT) (B := qB) Q1 (by omega)
  have H2 : HS (m + 240) (pulN σ best) (σ :: List.take 9 (List.take 10 (List.take 11 (List.take 12 (List.take 13 h))))) sl d1 d2 d3 d4 sv := H2
  have Q2 : HS (m + 240) (pulN σ best) (σ :: List.take 9 (List.take 10 (List.take 11 (List.take 12 (List.take 13 h))))) sl f1 f2 f3 f4 qsv := Q2
  obtain ⟨g1, g2, g3, g4, e5, H3⟩ := k_undo (us := us) (ch := ch) (T := T) (B := B) (y := 0) (z := 0) (w := 0) H2
  obtain ⟨i1, i2, i3, i4, e6, Q3⟩ := k_undo (us := qus) (ch := qch) (T := qT) (B := qB) (y := 0) (z := 0) (w := 0) Q2
  have l3 := H3.1
  have W2 := ticks_WF 200 σ hW
  have cc2 := cntN_le10 (w := 2) W2
  obtain ⟨o1, o2⟩ := others W2 (show best < 10 by omega)
  have egb : gb (ticksN σ 200) best = gon best (ticksN σ 200) := by
    unfold gb gon
    rw [ticks_0, decide_eq_true c1, Bool.true_and]
  rw [egb] at o2
  have ho : nI (cntN (ticksN σ 200) 2) - nI (bN (gon best (ticksN σ 200))) = nI (oth σ best) := m_sub o2
  have lo : oth σ best ≤ 10 := by unfold oth; omega
  have lg : gP σ best ≤ 10 := cntN_le10 (ticks_WF 200 _ (pull_WF hW c1))
  have key := p208 (us := us) (ch := ch) (T := T) (B := B) (qus := qus) (qch := qch) (qT := qT) (qB := qB) (v6 := nI (gP σ best)) (show m + 240 ≤ 900000000 by omega) hx h0 hB (fun _ => rfl) H3 Q3
  unfold fM_pulls_95 fM_pulls_139 fM_pulls_206
  rw [if_neg (show ¬ (1 : Int32) = 0 from by decide), e1, Option.bind_some]
  dsimp only
  rw [thrown_ok (by omega), Option.bind_some, if_pos rfl, e2, Option.bind_some]
  dsimp only
  rw [thrown_ok (by omega), Option.bind_some, if_pos rfl, e3, Option.bind_some]
  dsimp only
  rw [if_neg (show ¬ (1 : Int32) = 0 from by decide), e4, Option.bind_some]
  dsimp only
  rw [if_pos rfl, ho, show cntN (ticksN (pulN σ best) 200) 2 = gP σ best from rfl, if_neg (fun e => by have := (m_le (by omega) (by omega)).mp e; omega), e5, Option.bind_some]
  dsimp only
  rw [thrown_ok (by omega), Option.bind_some, if_pos rfl, e6, Option.bind_some]
  dsimp only
  rw [thrown_ok (by omega), Option.bind_some, if_pos rfl]
  exact key
theorem pulls_c (hm : m ≤ 800000000) (hx : x < 2147483648) (H : HS m σ h sl la cn C G sv) (Q : HS m σ h sl qla qcn qC qG qsv) : PR (m + 720) σ sl sv qsv (fM_pulls la cn us ch C G sv T B qla qcn qus qch qC qG qsv qT qB (nI x)) := by
  have hW := H.ok.1
  have hb0 := hW.1
  obtain ⟨best, mo, T1, B1, e1, hB⟩ := k_best (us := us) (ch := ch) (T := T) (B := B) H
  obtain ⟨a1, a2, a3, a4, e2, H1⟩ := later_c (us := us) (ch := ch) (T := T1) (B := B1) H (by omega)
  obtain ⟨b1, b2, b3, b4, e3, Q1⟩ := later_c (us := qus) (ch := qch) (T := qT) (B := qB) Q (by omega)
  unfold fM_pulls
  rw [k_about (y := 0) H 0 rfl (by omega), Option.bind_some]
  dsimp only
  rw [e1, Option.bind_some]
  dsimp only
  rw [show abv σ 0 = σ 0 from rfl]
  by_cases z : σ 0 = 0
  · have hbn : best = 4294967295 := by
      rcases hB with ⟨c1, _⟩ | ⟨c1, _⟩
      · exact c1
      · omega
    have hc0 : cntN (ticksN σ 200) 2 = 0 := by
      unfold cntN
      rw [ticks_0, z]
      rfl
    rw [if_pos (show nI (σ 0) = 0 from by rw [z]; rfl), if_pos (show nI best = -1 from by rw [hbn]; decide), e2, Option.bind_some]
    dsimp only
    rw [hc0, if_pos (show nI 0 = 0 from rfl), e3, Option.bind_some]
    dsimp only
    rw [hc0, if_pos (show nI 0 = 0 from rfl)]
    exact ⟨lat h, a1, a2, a3, a4, T1, B1, b1, b2, b3, b4, qB, rfl, H1.mono (by omega), Q1.mono (by omega)⟩
  · rw [if_neg (show ¬ nI (σ 0) = 0 from fun e => z ((m_eq (b := 0) (by omega) (by omega)).mp e)), e2, Option.bind_some]
    dsimp only
    rw [e3, Option.bind_some]
    dsimp only
    rw [if_pos rfl]
    unfold fM_pulls_68
    by_cases hb : best = 4294967295
    · rw [if_pos (show nI best = -1 from by rw [hb]; decide)]
      obtain ⟨h', x1, x2, x3, x4, x5, x6, x7, x8, x9, y1, y2, r1, r2, r3⟩ := p208 (us := us) (ch := ch) (T := T1) (B := B1) (qus := qus) (qch := qch) (qT := qT) (qB := qB) (v6 := -1) (m := m + 240) (by omega) hx (by omega) hB (fun q => absurd hb q) H1 Q1
      exact ⟨h', x1, x2, x3, x4, x5, x6, x7, x8, x9, y1, y2, r1, r2.mono (by omega), r3.mono (by omega)⟩
    · have c1 : best < σ 0 := by
        rcases hB with ⟨c1, _⟩ | ⟨c1, _⟩
        · exact absurd c1 hb
        · exact c1
      obtain ⟨B2, e4⟩ := k_gone (us := us) (ch := ch) (T := T1) (B := B1) (y := nI best) (z := 0) (w := 0) H1 (by omega) best c1 rfl
      have gn := gon_no (σ := σ) (i := best)
      obtain ⟨h', x1, x2, x3, x4, x5, x6, x7, x8, x9, y1, y2, r1, r2, r3⟩ := p95 (us := us) (ch := ch) (T := T1) (B := B2) (qus := qus) (qch := qch) (qT := qT) (qB := qB) (m := m + 240) (by omega) hx (by omega) hB hb H1 Q1
      rw [if_neg (nI_no (by omega)), e4, Option.bind_some]
      dsimp only
      refine ⟨h', x1, x2, x3, x4, x5, x6, x7, x8, x9, y1, y2, ?_, r2.mono (by omega), r3.mono (by omega)⟩
      by_cases q : (untN (gon best) 200 σ 0).1 = 4294967295
      · rw [gn.mp q] at r1
        rw [if_pos (show nI (untN (gon best) 200 σ 0).1 = -1 from by rw [q]; decide)]
        exact r1
      · have ht := (unt_in (gon best) σ).resolve_left q
        have e : gon best (ticksN σ 200) = true := by
          cases w : gon best (ticksN σ 200)
          · exact absurd (gn.mpr w) q
          · rfl
        rw [e] at r1
        rw [if_neg (nI_no (by omega))]
        exact r1
end PLL
