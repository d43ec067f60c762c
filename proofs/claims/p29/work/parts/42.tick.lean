section TKC
variable {σ τ κ : Nat → Nat} {d i k w v x : Nat}
/-- it does something else than wait -/
def mvd (σ : Nat → Nat) (i : Nat) : Bool := eats σ i || (wants σ i != 4294967295 && fr σ (wants σ i))
theorem uw_lt (h : uw σ i = true) : i < σ 0 ∧ σ (40 + 18 * i) ≤ 1 := by
  simp only [uw, Bool.and_eq_true, decide_eq_true_eq] at h
  omega
theorem wants_no (h : WF σ) (hi : i < σ 0) (h1 : σ (40 + 18 * i) ≤ 1) : (wants σ i = 4294967295 ↔ eats σ i = true) := by
  have hw := wants_in h hi
  obtain ⟨c1, c2, c3, c4, c5, c6, c7, c8, -⟩ := h.2.2.2.1 i hi
  constructor
  · intro e
    unfold wants at e
    by_cases g : σ (40 + 18 * i) = 0
    · rw [if_pos g] at e; omega
    · rw [if_neg g] at e
      cases ge : eats σ i
      · rw [if_pos ⟨by omega, ge⟩] at e
        have := nr_in h hi (by omega) ge
        omega
      · rfl
  · intro e
    have := eats_1 e
    unfold wants
    rw [if_neg (by omega), if_neg (fun z => by rw [e] at z; cases z.2)]
theorem move55_go {κ1 : Nat → Nat} (hi : i < 10) (hk : k < 36) (hd : fX0_drawIn (E κ) (nI i) = some (E κ1)) (hm : κ1 (76 + i * 18 + 1) ≤ 8) : fX0_moveOne_55 (nI i) (nI k) (nI 0) (E κ) = some (nI 1, E (putC κ1 i (κ1 (76 + i * 18 + 1)) k)) := by
  unfold fX0_moveOne_55
  rw [hd, Option.bind_some, if_pos (show nI 0 = 0 from rfl), putHead_c hi hk hm]
  rfl
theorem move55_eat {κ1 : Nat → Nat} {y : Int32} (hi : i < 10) (hd : fX0_drawIn (E κ) (nI i) = some (E κ1)) (hm : κ1 (76 + i * 18 + 1) ≤ 9) : fX0_moveOne_55 (nI i) y (nI 1) (E κ) = some (nI 1, E (eatC κ1 i)) := by
  unfold fX0_moveOne_55
  rw [hd, Option.bind_some, if_neg (by decide), eatOne_c hi hm]
  rfl
theorem drawIn_r (h : Rep d κ σ) (hW : WF σ) (hi : i < σ 0) (h1 : σ (40 + 18 * i) ≤ 1) : fX0_drawIn (E κ) (nI i) = some (E (drawC κ i)) := by
  have h0 := hW.1
  obtain ⟨c1, c2, c3, c4, c5, c6, c7, c8, c9, c10, c11⟩ := hW.2.2.2.1 i hi
  have n1 := h.nm (w := 1) hi (by omega)
  have n2 := h.nm (w := 2) hi (by omega)
  refine drawIn_c (by omega) (by omega) (fun z => ?_)
  have hl : 1 ≤ σ (40 + 18 * i + 1) := by
    by_cases g : σ (40 + 18 * i) = 0
    · have := c11 g; omega
    · exact c8 (by omega)
  refine ⟨by omega, by omega, ?_⟩
  rw [n1, h.r hi (by omega)]
  exact c7 _ (by omega)
theorem moveOne_c (h : Rep 1 κ σ) (hW : WF σ) (hi : i < σ 0) (h1 : σ (40 + 18 * i) ≤ 1) : ∃ κ', fX0_moveOne (E κ) (nI i) = some (nI (bN (mvd σ i)), E κ') ∧ Rep 1 κ' (act σ i) := by
  have h0 := hW.1
  have hw := wants_in hW hi
  have hd := drawIn_r h hW hi h1
  have m0 : fX0_moveOne (E κ) (nI i) = if wants σ i = 4294967295 then fX0_moveOne_16 (nI i) (nI (wants σ i)) (nI 1) (E κ) else fX0_moveOne_16 (nI i) (nI (wants σ i)) (nI 0) (E κ) := by
    simp (disch := omega) only [fX0_moveOne, nextRoomOf_c h hW hi, Nat.add_zero, upN_ne, upN_same, m_lit, m_neg1, m_add, m_mul, m_sub, m_div, m_le, m_lt, m_eq, m_cl, m_gd, m_E, m_upd, m_isz0, m_isz1, Option.bind_some]
  rw [m0]
  cases ge : eats σ i
  · have hno : wants σ i ≠ 4294967295 := fun z => by rw [(wants_no hW hi h1).mp z] at ge; cases ge
    have hk : wants σ i < 36 := by omega
    rw [if_neg hno]
    have e16 : fX0_moveOne_16 (nI i) (nI (wants σ i)) (nI 0) (E κ) = (fX0_isFree (E κ) (nI (wants σ i))).bind fun r_10 => (if r_10 = 0 then ((fX0_number (E κ) (nI i) 4).bind fun r_13 => ((fX0_setNumber (E κ) (nI i) 4 (r_13 + 1)).bind fun C_15 => some (0, (upd C_15 3 ((C_15 3) + 1))))) else fX0_moveOne_55 (nI i) (nI (wants σ i)) (nI 0) (E κ)) := if_pos rfl
    rw [e16, isFree_c h hW hk, Option.bind_some]
    cases gf : fr σ (wants σ i)
    · refine ⟨upN (upN κ (76 + i * 18 + 4) (κ (76 + i * 18 + 4) + 1)) 3 (κ 3 + 1), ?_, ?_⟩
      · simp (disch := omega) only [number_c, setNumber_c, m_bN, Nat.add_zero, upN_ne, upN_same, m_lit, m_neg1, m_add, m_mul, m_sub, m_div, m_le, m_lt, m_eq, m_cl, m_gd, m_E, m_upd, m_isz0, m_isz1, Option.bind_some]
        rw [if_pos trivial]
        have : mvd σ i = false := by unfold mvd; rw [ge, gf]; simp
        rw [this]; rfl
      · have : act σ i = waitN σ i := by unfold act; rw [ge, gf, if_neg (show ¬ (false = true) from by decide), if_neg hno, if_neg (show ¬ (false = true) from by decide)]
        rw [this]
        exact mv_wait h hW hi
    · obtain ⟨g1, g2⟩ := mv_go h hW hi h1 hk (fr_tk gf)
      refine ⟨putC (drawC κ i) i (drawC κ i (76 + i * 18 + 1)) (wants σ i), ?_, ?_⟩
      · rw [if_neg (show ¬ nI (bN true) = 0 from by decide), move55_go (by omega) hk hd g2]
        have : mvd σ i = true := by unfold mvd; rw [ge, gf]; simpa using hno
        rw [this]; rfl
      · have : act σ i = goN σ i (wants σ i) := by unfold act; rw [ge, gf, if_neg (show ¬ (false = true) from by decide), if_neg hno, if_pos rfl]
        rw [this]
        exact g1
  · have hno : wants σ i = 4294967295 := (wants_no hW hi h1).mpr ge
    rw [if_pos hno]
    have e16 : fX0_moveOne_16 (nI i) (nI (wants σ i)) (nI 1) (E κ) = fX0_moveOne_55 (nI i) (nI (wants σ i)) (nI 1) (E κ) := if_neg (by decide)
    obtain ⟨g1, g2⟩ := mv_eat h hW hi (eats_1 ge)
    refine ⟨eatC (drawC κ i) i, ?_, ?_⟩
    · rw [e16, move55_eat (by omega) hd g2]
      have : mvd σ i = true := by unfold mvd; rw [ge]; rfl
      rw [this]; rfl
    · have : act σ i = eatN σ i := by unfold act; rw [ge, if_pos rfl]
      rw [this]
      exact g1
theorem act_nuw (h : uw σ i = false) (hi : i < σ 0) : act σ i = σ := by
  have h2 : 2 ≤ σ (40 + 18 * i) := by
    simp only [uw, decide_eq_true hi, Bool.true_and, decide_eq_false_iff_not] at h
    omega
  have he : eats σ i = false := by
    simp only [eats]
    rw [beq_eq_false_iff_ne.mpr (by omega)]
    rfl
  have hw : wants σ i = 4294967295 := by
    unfold wants
    rw [if_neg (by omega), if_neg (fun z => by omega)]
  unfold act
  rw [he, if_neg (by decide), if_pos hw]
def anyM (σ : Nat → Nat) : Nat → Nat → Bool
  | 0, _ => false
  | n + 1, i => (uw σ i && mvd σ i) || anyM (act σ i) n (i + 1)
theorem moveAll14 : ∀ n i (κ σ : Nat → Nat) (b : Bool), Rep 1 κ σ → WF σ → i ≤ 10 → 10 - i < n → ∃ κ', fX0_moveAll_14 n (nI (bN b)) (nI i) (E κ) = some (nI (bN (b || anyM σ (σ 0 - i) i)), E κ') ∧ Rep 1 κ' (actsN σ (σ 0 - i) i) := by
  intro n
  induction n with
  | zero => intro i κ σ b _ _ _ h; omega
  | succ n ih =>
    intro i κ σ b h hW hi hn
    have h0 := hW.1
    rw [fX0_moveAll_14]
    by_cases h1 : 10 ≤ i
    · refine ⟨κ, ?_, ?_⟩
      · simp (disch := omega) only [m_bNi, Nat.add_zero, upN_ne, upN_same, m_lit, m_neg1, m_add, m_mul, m_sub, m_div, m_le, m_lt, m_eq, m_cl, m_gd, m_E, m_upd, m_isz0, m_isz1, Option.bind_some]
        rw [if_pos h1, show σ 0 - i = 0 by omega]
        simp [anyM]
      · rw [show σ 0 - i = 0 by omega]; exact h
    · simp (disch := omega) only [isUnderWay_c h hW, m_bN, fX0_moveAll_38, Nat.add_zero, upN_ne, upN_same, m_lit, m_neg1, m_add, m_mul, m_sub, m_div, m_le, m_lt, m_eq, m_cl, m_gd, m_E, m_upd, m_isz0, m_isz1, Option.bind_some]
      rw [if_neg h1]
      by_cases g : i < σ 0
      · rw [show σ 0 - i = (σ 0 - (i + 1)) + 1 by omega, anyM, actsN]
        cases gu : uw σ i
        · rw [if_pos (rfl : false = false), act_nuw gu g]
          have := ih (i + 1) κ σ b h hW (by omega) (by omega)
          simpa using this
        · rw [if_neg (show ¬ (true = false) from by decide)]
          obtain ⟨κ1, e1, r1⟩ := moveOne_c h hW g (uw_lt gu).2
          rw [e1, Option.bind_some]
          dsimp only
          have hW1 := act_WF hW g
          have z0 : act σ i 0 = σ 0 := act_0 (by omega) (by omega)
          cases gm : mvd σ i
          · rw [if_pos (show nI (bN false) = nI 0 from rfl)]
            have := ih (i + 1) κ1 (act σ i) b r1 hW1 (by omega) (by omega)
            rw [z0] at this
            simpa using this
          · rw [if_neg (show ¬ nI (bN true) = nI 0 from by decide)]
            have := ih (i + 1) κ1 (act σ i) true r1 hW1 (by omega) (by omega)
            rw [z0] at this
            rw [Bool.true_and, Bool.true_or, Bool.or_true]
            rw [Bool.true_or] at this
            exact this
      · have gu : uw σ i = false := by simp [uw, g]
        rw [gu, if_pos (rfl : false = false), show σ 0 - i = 0 by omega]
        have := ih (i + 1) κ σ b h hW (by omega) (by omega)
        rw [show σ 0 - (i + 1) = 0 by omega] at this
        exact this
theorem rep_tick (h : Rep 1 κ σ) (hW : WF σ) : Rep 0 κ (upN σ 1 (σ 1 + 1)) := by
  obtain ⟨a0, a1, a2, a3, a4, a5, a6, a7, a8⟩ := h
  have hc : Cor σ (upN σ 1 (σ 1 + 1)) := up1_cor _
  refine ⟨by rw [upN_ne (by omega)]; exact a0, by rw [upN_ne (by omega)]; exact a1, by rw [upN_same]; exact a2, by rw [upN_ne (by omega)]; exact a3, fun x hx => by rw [upN_ne (by omega)]; exact a4 x hx, fun x hx => by rw [hc.tk hW]; exact a5 x hx, fun j w hj hw => ?_, fun j p hj hp => ?_, fun j hj hj2 => ?_⟩
  · rw [upN_ne (by omega)] at hj ⊢; exact a6 j w hj hw
  · rw [upN_ne (by omega)] at hj hp ⊢; exact a7 j p hj hp
  · rw [upN_ne (by omega)] at hj; exact a8 j hj hj2
theorem rep_up (h : Rep 0 κ σ) : Rep 1 (upN κ 2 (κ 2 + 1)) σ := by
  obtain ⟨a0, a1, a2, a3, a4, a5, a6, a7, a8⟩ := h
  refine ⟨by rw [upN_ne (by omega)]; exact a0, by rw [upN_ne (by omega)]; exact a1, by rw [upN_same]; omega, by rw [upN_ne (by omega)]; exact a3, fun x hx => by rw [upN_ne (by omega)]; exact a4 x hx, fun x hx => by rw [upN_ne (by omega)]; exact a5 x hx, fun j w hj hw => by rw [upN_ne (by omega)]; exact a6 j w hj hw, fun j p hj hp => by rw [upN_ne (by omega)]; exact a7 j p hj hp, fun j hj hj2 => by rw [upN_ne (by omega)]; exact a8 j hj hj2⟩
def mvA (σ : Nat → Nat) : Bool := anyM σ (σ 0) 0
theorem moveAll_c (h : Rep 0 κ σ) (hW : WF σ) : ∃ κ', fX0_moveAll (E κ) = some (nI (bN (mvA σ)), E κ') ∧ Rep 0 κ' (tickN σ) := by
  have h0 := hW.1
  obtain ⟨κ', e, r⟩ := moveAll14 5000 0 _ σ false (rep_up h) hW (by omega) (by omega)
  refine ⟨κ', ?_, ?_⟩
  · unfold fX0_moveAll
    have e2 : upd (E κ) 2 (E κ 2 + 1) = E (upN κ 2 (κ 2 + 1)) := by simp (disch := omega) only [Nat.add_zero, upN_ne, upN_same, m_lit, m_neg1, m_add, m_mul, m_sub, m_div, m_le, m_lt, m_eq, m_cl, m_gd, m_E, m_upd, m_isz0, m_isz1, Option.bind_some]
    rw [e2]
    exact e
  · have := rep_tick r (actsN_WF _ _ _ hW (by omega))
    rw [actsN_lo (by omega) (by omega)] at this
    exact this
theorem run11 (m : Nat) (hm : m ≤ 60) : ∀ n j (κ σ : Nat → Nat), Rep 0 κ σ → WF σ → j ≤ m → m - j < n → ∃ κ', fX0_runTicks_11 (nI m) n (nI j) (E κ) = some (nI 1, E κ') ∧ Rep 0 κ' (ticksN σ (m - j)) := by
  intro n
  induction n with
  | zero => intro j κ σ _ _ _ h; omega
  | succ n ih =>
    intro j κ σ h hW hj hn
    rw [fX0_runTicks_11]
    by_cases h1 : m ≤ j
    · refine ⟨κ, ?_, ?_⟩
      · simp (disch := omega) only [Nat.add_zero, upN_ne, upN_same, m_lit, m_neg1, m_add, m_mul, m_sub, m_div, m_le, m_lt, m_eq, m_cl, m_gd, m_E, m_upd, m_isz0, m_isz1, Option.bind_some]
        rw [if_pos h1]
      · rw [show m - j = 0 by omega]; exact h
    · obtain ⟨κ1, e1, r1⟩ := moveAll_c h hW
      simp (disch := omega) only [e1, Nat.add_zero, upN_ne, upN_same, m_lit, m_neg1, m_add, m_mul, m_sub, m_div, m_le, m_lt, m_eq, m_cl, m_gd, m_E, m_upd, m_isz0, m_isz1, Option.bind_some]
      rw [if_neg h1, show m - j = (m - (j + 1)) + 1 by omega]
      exact ih (j + 1) κ1 (tickN σ) r1 (tick_WF hW) (by omega) (by omega)
theorem runTicks_c (h : Rep 0 κ σ) (hW : WF σ) (h1 : 1 ≤ v) (h2 : v ≤ 60) : ∃ κ', fX0_runTicks (E κ) (nI v) = some (nI 1, E κ') ∧ Rep 0 κ' (ticksN σ v) := by
  obtain ⟨κ', e, r⟩ := run11 v h2 5000 0 κ σ h hW (by omega) (by omega)
  refine ⟨κ', ?_, r⟩
  unfold fX0_runTicks
  rw [isTicks_c h1 h2, Option.bind_some, if_neg (by decide)]
  exact e
theorem runTicks_f {y : Int32} {C : Nat → Int32} (h : ∀ n, 1 ≤ n → n ≤ 60 → y ≠ nI n) : fX0_runTicks C y = some (nI 0, C) := by
  unfold fX0_runTicks
  rw [isTicks_cf h, Option.bind_some, if_pos (by decide)]
  rfl
-- when none moves, none ever does
theorem act_cor (h : (uw σ i && mvd σ i) = false) (hi : i < σ 0) : Cor σ (act σ i) := by
  cases gu : uw σ i
  · rw [act_nuw gu hi]; exact Cor.rf
  · rw [gu, Bool.true_and] at h
    unfold mvd at h
    rw [Bool.or_eq_false_iff] at h
    unfold act
    rw [h.1, if_neg (by decide)]
    by_cases g : wants σ i = 4294967295
    · rw [if_pos g]; exact Cor.rf
    · rw [if_neg g]
      have : fr σ (wants σ i) = false := by
        have := h.2
        rw [Bool.and_eq_false_iff] at this
        rcases this with z | z
        · exact absurd (by simpa using z) g
        · exact z
      rw [this, if_neg (by decide)]
      exact waitN_cor
theorem Cor.uw (h : Cor σ τ) : uw τ i = uw σ i := by
  unfold _root_.Jvm.Pilot.CLongCaterpillarsLaw_law_r1891_b39e61.uw
  rw [h.at0, h.lo (x := 0) (by omega) (by omega) (by omega)]
theorem Cor.mvd (h : Cor σ τ) (hW : WF σ) (hi : i < σ 0) : mvd τ i = mvd σ i := by
  have hw := wants_in hW hi
  unfold _root_.Jvm.Pilot.CLongCaterpillarsLaw_law_r1891_b39e61.mvd
  rw [h.eats, h.wants hW hi]
  rcases hw with g | g
  · rw [h.fr hW g]
  · rw [g]; simp
def stuck (σ : Nat → Nat) : Prop := ∀ i, i < σ 0 → (uw σ i && mvd σ i) = false
theorem Cor.stuck (h : Cor σ τ) (hW : WF σ) (hs : stuck σ) : stuck τ := by
  intro i hi
  rw [h.lo (x := 0) (by omega) (by omega) (by omega)] at hi
  rw [h.uw, h.mvd hW hi]
  exact hs i hi
theorem anyM_f : ∀ n i (σ : Nat → Nat), WF σ → i + n ≤ σ 0 → anyM σ n i = false → (∀ j, i ≤ j → j < i + n → (uw σ j && mvd σ j) = false) := by
  intro n
  induction n with
  | zero => intro i σ _ _ _ j h1 h2; omega
  | succ n ih =>
    intro i σ hW hi h j h1 h2
    rw [anyM, Bool.or_eq_false_iff] at h
    have hc := act_cor h.1 (by omega)
    by_cases g : j = i
    · rw [g]; exact h.1
    · have := ih (i + 1) _ (act_WF hW (by omega)) (by rw [act_0 (by omega) (by omega)]; omega) h.2 j (by omega) (by omega)
      rw [hc.uw, hc.mvd hW (by omega)] at this
      exact this
theorem stuck_of (hW : WF σ) (h : mvA σ = false) : stuck σ := fun i hi => anyM_f _ _ _ hW (by omega) h i (Nat.zero_le _) (by omega)
theorem stuck_acts : ∀ n i (σ : Nat → Nat), WF σ → stuck σ → i + n ≤ σ 0 → Cor σ (actsN σ n i) := by
  intro n
  induction n with
  | zero => intro i σ _ _ _; exact Cor.rf
  | succ n ih =>
    intro i σ hW hs hi
    have hc := act_cor (hs i (by omega)) (by omega)
    exact hc.tr (ih (i + 1) _ (act_WF hW (by omega)) (hc.stuck hW hs) (by rw [act_0 (by omega) (by omega)]; omega))
theorem stuck_tick (hW : WF σ) (hs : stuck σ) : Cor σ (tickN σ) := (stuck_acts _ _ _ hW hs (by omega)).tr (up1_cor _)
theorem stuck_ticks : ∀ n (σ : Nat → Nat), WF σ → stuck σ → Cor σ (ticksN σ n) := by
  intro n
  induction n with
  | zero => intro σ _ _; exact Cor.rf
  | succ n ih =>
    intro σ hW hs
    have hc := stuck_tick hW hs
    exact hc.tr (ih _ (tick_WF hW) (hc.stuck hW hs))
theorem cnt_same (h : ∀ j, τ (40 + 18 * j) = σ (40 + 18 * j)) : ∀ n i, cnt τ w n i = cnt σ w n i := by
  intro n
  induction n with
  | zero => intro i; rfl
  | succ n ih => intro i; rw [cnt, cnt, h, ih]
theorem Cor.cnt (h : Cor σ τ) : cntN τ w = cntN σ w := by
  unfold cntN
  rw [h.lo (x := 0) (by omega) (by omega) (by omega)]
  exact cnt_same (fun j => h.at0 j) _ _
theorem Cor.thr (h : Cor σ τ) : thr τ = thr σ := by
  unfold _root_.Jvm.Pilot.CLongCaterpillarsLaw_law_r1891_b39e61.thr
  rw [h.cnt, h.cnt]
theorem cnt_zero : ∀ n i, cnt σ w n i = 0 → ∀ j, i ≤ j → j < i + n → σ (40 + 18 * j) ≠ w := by
  intro n
  induction n with
  | zero => intro i _ j h1 h2; omega
  | succ n ih =>
    intro i h j h1 h2 e
    rw [cnt] at h
    by_cases g : j = i
    · subst g
      rw [beq_iff_eq.mpr e] at h
      have : bN true = 1 := rfl
      omega
    · exact ih (i + 1) (by omega) j (by omega) (by omega) e
theorem thr_stuck (h : thr σ = true) : stuck σ := by
  intro i hi
  unfold thr at h
  have h := beq_iff_eq.mp h
  have z0 := cnt_zero (σ := σ) (w := 0) (σ 0) 0 (by unfold cntN at h; omega) i (Nat.zero_le _) (by omega)
  have z1 := cnt_zero (σ := σ) (w := 1) (σ 0) 0 (by unfold cntN at h; omega) i (Nat.zero_le _) (by omega)
  have : uw σ i = false := by
    unfold uw
    rw [decide_eq_false (show ¬ σ (40 + 18 * i) < 2 by omega), Bool.and_false]
  rw [this]; rfl
end TKC
