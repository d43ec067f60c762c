theorem nI_no {a : Nat} (h : a < 2147483648) : nI a ≠ -1 := fun e => by
  have := (m_eq (b := 4294967295) (by omega) (by omega)).mp (e.trans (by decide))
  omega
theorem ff0 : ¬ (false = true) := by decide
theorem s1p (p : Nat) : nI p + 1 = nI (p + 1) := nI_add p 1
/-! AHEAD: two hundred ticks on a copy -/
section AHD
variable {σ τ κ : Nat → Nat} {d i j k w v x m n : Nat} {la cn us : Int32} {ch : Nat → Int32} {C G sv T B : Nat → Int32} {O : Nat → Int64} {rf zs ac sp ou : Int32} {mt N jT jO dy kp ik : Nat → Int32}
theorem act_fix (h : 2 ≤ σ (40 + 18 * j)) (hi : i < σ 0) (hw : w < 18) : act σ i (40 + 18 * j + w) = σ (40 + 18 * j + w) := by
  by_cases g : j = i
  · subst g
    have : uw σ j = false := by
      unfold uw
      rw [decide_eq_false (show ¬ σ (40 + 18 * j) < 2 by omega), Bool.and_false]
    rw [act_nuw this hi]
  · exact act_j g hw
theorem acts_fix (hw : w < 18) : ∀ n i (σ : Nat → Nat), 2 ≤ σ (40 + 18 * j) → i + n ≤ σ 0 → actsN σ n i (40 + 18 * j + w) = σ (40 + 18 * j + w) := by
  intro n
  induction n with
  | zero => intro i σ _ _; rfl
  | succ n ih =>
    intro i σ h hi
    have a0 := act_fix (w := 0) h (show i < σ 0 by omega) (by omega)
    have e := ih (i + 1) (act σ i) (by rw [Nat.add_zero] at a0; omega) (by rw [act_0 (by omega) (by omega)]; omega)
    exact e.trans (act_fix h (by omega) hw)
theorem tick_fix (h : 2 ≤ σ (40 + 18 * j)) (hw : w < 18) : tickN σ (40 + 18 * j + w) = σ (40 + 18 * j + w) := by
  unfold tickN
  rw [upN_ne (by omega)]
  exact acts_fix hw _ _ _ h (by omega)
theorem ticks_fix (hw : w < 18) : ∀ n (σ : Nat → Nat), 2 ≤ σ (40 + 18 * j) → ticksN σ n (40 + 18 * j + w) = σ (40 + 18 * j + w) := by
  intro n
  induction n with
  | zero => intro σ _; rfl
  | succ n ih =>
    intro σ h
    have a0 := tick_fix (w := 0) h (by omega)
    exact (ih (tickN σ) (by rw [Nat.add_zero] at a0; omega)).trans (tick_fix h hw)
/-- newly gone: the number of this tick -/
theorem act_new (h : σ (40 + 18 * j) ≠ 2) (h2 : act σ i (40 + 18 * j) = 2) : act σ i (40 + 18 * j + 5) = σ 1 + 1 := by
  by_cases g : j = i
  · subst g
    unfold act at h2 ⊢
    cases ge : eats σ j
    · rw [ge, if_neg ff0] at h2
      by_cases gw : wants σ j = 4294967295
      · rw [if_pos gw] at h2; exact absurd h2 h
      · have h1 := wants_1 gw
        rw [if_neg gw] at h2
        cases gf : fr σ (wants σ j)
        · rw [gf, if_neg ff0] at h2
          unfold waitN at h2
          rw [upN_ne (by omega), upN_ne (by omega)] at h2
          exact absurd h2 h
        · rw [gf, if_pos rfl, go_0] at h2
          omega
    · rw [ge, if_pos rfl, eat_0] at h2
      rw [if_pos rfl, eat_5]
      by_cases q : eat2 σ j (40 + 18 * j + 1) = 0
      · rw [if_pos q]
      · rw [if_neg q] at h2; exact absurd h2 h
  · have := act_j (σ := σ) (i := i) (j := j) (w := 0) g (by omega)
    exact absurd (this.symm.trans h2) h
theorem acts_new : ∀ n i (σ : Nat → Nat), i + n ≤ σ 0 → σ (40 + 18 * j) ≠ 2 → actsN σ n i (40 + 18 * j) = 2 → actsN σ n i (40 + 18 * j + 5) = σ 1 + 1 := by
  intro n
  induction n with
  | zero => intro i σ _ h h2; exact absurd h2 h
  | succ n ih =>
    intro i σ hi h h2
    have e0 : act σ i 0 = σ 0 := act_0 (by omega) (by omega)
    have e1 : act σ i 1 = σ 1 := act_0 (by omega) (by omega)
    by_cases g : act σ i (40 + 18 * j) = 2
    · have := acts_fix (j := j) (w := 5) (by omega) n (i + 1) (act σ i) (by omega) (by omega)
      exact this.trans (act_new h g)
    · rw [← e1]
      exact ih (i + 1) (act σ i) (by omega) g h2
theorem tick_new (h : σ (40 + 18 * j) ≠ 2) (h2 : tickN σ (40 + 18 * j) = 2) : tickN σ (40 + 18 * j + 5) = σ 1 + 1 := by
  unfold tickN at h2 ⊢
  rw [upN_ne (by omega)] at h2 ⊢
  exact acts_new _ _ _ (by omega) h h2
theorem unt_spec (f : (Nat → Nat) → Bool) : ∀ m (σ : Nat → Nat) n, (∃ k, k ≤ m ∧ f (ticksN σ k) = true ∧ (∀ i, i < k → f (ticksN σ i) = false) ∧ untN f m σ n = (n + k, ticksN σ k)) ∨ ((∀ k, k ≤ m → f (ticksN σ k) = false) ∧ untN f m σ n = (4294967295, ticksN σ m)) := by
  intro m
  induction m with
  | zero =>
    intro σ n
    rw [untN]
    cases g : f σ
    · exact Or.inr ⟨fun k hk => by rw [show k = 0 by omega]; exact g, by rw [if_neg ff0]; rfl⟩
    · exact Or.inl ⟨0, Nat.le_refl _, g, fun i hi => by omega, by rw [if_pos rfl]; rfl⟩
  | succ m ih =>
    intro σ n
    rw [untN]
    cases g : f σ
    · rw [if_neg ff0]
      rcases ih (tickN σ) (n + 1) with ⟨k, a, b, c, e⟩ | ⟨a, e⟩
      · refine Or.inl ⟨k + 1, by omega, b, fun i hi => ?_, ?_⟩
        · cases i with
          | zero => exact g
          | succ i => exact c i (by omega)
        · rw [e, show n + 1 + k = n + (k + 1) by omega]; rfl
      · refine Or.inr ⟨fun k hk => ?_, e⟩
        cases k with
        | zero => exact g
        | succ k => exact a k (by omega)
    · exact Or.inl ⟨0, by omega, g, fun i hi => by omega, by rw [if_pos rfl]; rfl⟩
theorem unt_stuck : ∀ m (σ : Nat → Nat) n, WF σ → stuck σ → thr σ = false → (untN thr m σ n).1 = 4294967295 := by
  intro m
  induction m with
  | zero => intro σ n _ _ h; rw [untN, h, if_neg ff0]
  | succ m ih =>
    intro σ n hW hs h
    have hc := stuck_tick hW hs
    rw [untN, h, if_neg ff0]
    exact ih _ _ (tick_WF hW) (hc.stuck hW hs) (hc.thr.trans h)
theorem run_h : ∀ n v (κ σ : Nat → Nat), Rep 0 κ σ → WF σ → v ≤ 200 → 200 - v < n → ∃ κ' m, m ≤ 200 - v ∧ fX3_runAhead_h_10 n (nI v) (E κ) = some (nI (untN thr (200 - v) σ v).1, E κ') ∧ Rep 0 κ' (ticksN σ m) ∧ Cor (ticksN σ m) (ticksN σ (200 - v)) := by
  intro n
  induction n with
  | zero => intro v κ σ _ _ _ h; omega
  | succ n ih =>
    intro v κ σ h hW hv hn
    rw [fX3_runAhead_h_10, isThrough_c h hW, Option.bind_some]
    by_cases g : 200 ≤ v
    · have hv2 : v = 200 := by omega
      subst hv2
      refine ⟨κ, 0, by omega, ?_, h, Cor.rf⟩
      rw [if_pos (show 200 ≤ nI 200 from by decide)]
      show _ = some (nI (if thr σ = true then 200 else 4294967295), E κ)
      cases thr σ
      · rw [if_pos (show nI (bN false) = 0 from rfl), if_neg ff0]; rfl
      · rw [if_neg (show ¬ nI (bN true) = 0 from by decide), if_pos rfl]; rfl
    · rw [if_neg (show ¬ 200 ≤ nI v from fun e => g ((m_le (a := 200) (by omega) (by omega)).mp e))]
      have hm : 200 - v = (200 - (v + 1)) + 1 := by omega
      cases gt : thr σ
      · rw [Option.bind_some, if_pos (show nI (bN false) = 0 from rfl)]
        obtain ⟨κ1, e1, r1⟩ := moveAll_c h hW
        rw [e1, Option.bind_some]
        dsimp only
        cases gm : mvA σ
        · rw [if_pos (show nI (bN false) = 0 from rfl)]
          have hs := stuck_of hW gm
          have hc := stuck_tick hW hs
          refine ⟨κ1, 1, by omega, ?_, r1, ?_⟩
          · rw [unt_stuck _ _ _ hW hs gt]
            rfl
          · rw [hm]
            exact stuck_ticks _ _ (tick_WF hW) (hc.stuck hW hs)
        · rw [if_neg (show ¬ nI (bN true) = 0 from by decide), s1p]
          obtain ⟨κ', m, a1, a2, a3, a4⟩ := ih (v + 1) κ1 (tickN σ) r1 (tick_WF hW) (by omega) (by omega)
          refine ⟨κ', m + 1, by omega, ?_, a3, ?_⟩
          · rw [a2, hm, untN, gt, if_neg ff0]
          · rw [hm]; exact a4
      · rw [Option.bind_some, if_neg (show ¬ nI (bN true) = 0 from by decide)]
        refine ⟨κ, 0, by omega, ?_, h, stuck_ticks _ _ hW (thr_stuck gt)⟩
        rw [hm, untN, gt, if_pos rfl]
theorem runs_same : ∀ n v (B : Nat → Int32), fX3_runAhead_r_10 n v B = fX3_runAhead_h_10 n v B := by
  intro n
  induction n with
  | zero => intro v B; rfl
  | succ n ih =>
    intro v B
    rw [fX3_runAhead_r_10, fX3_runAhead_h_10]
    simp only [ih]
/-- a copy of a house -/
theorem copy_c (C D : Nat → Nat) : ∃ κ', fX0_copyFrom (E D) (E C) = some (E κ') ∧ ∀ x, x < 256 → κ' x = C x := by
  refine ⟨fun x => if x < 256 then C x else D x, ?_, fun x hx => if_pos hx⟩
  rw [copyFrom_c]
  congr 1
  funext x
  unfold va_cpy E
  dsimp only
  by_cases g : x < 256
  · rw [if_pos (by omega), if_pos g, Nat.zero_add, Nat.sub_zero]
  · rw [if_neg (by omega), if_neg g]
theorem ahead_h (h : Rep 0 κ σ) (hW : WF σ) : ∃ κ' m, m ≤ 200 ∧ fX3_runAhead_h la cn us ch (E κ) G sv T B = some (nI (untN thr 200 σ 0).1, E κ') ∧ Rep 0 κ' (ticksN σ m) ∧ Cor (ticksN σ m) (ticksN σ 200) := by
  obtain ⟨β, -, rfl⟩ := E_sur B
  obtain ⟨κ1, e1, hk⟩ := copy_c κ β
  have h1 := (Rep_congr h hW hk (fun _ _ => rfl)).1
  obtain ⟨κ', m, a1, a2, a3, a4⟩ := run_h 5000 0 κ1 σ h1 hW (by omega) (by omega)
  refine ⟨κ', m, a1, ?_, a3, a4⟩
  unfold fX3_runAhead_h
  rw [e1, Option.bind_some]
  exact a2
theorem ahead_r (h : Rep 0 κ σ) (hW : WF σ) : ∃ κ' m, m ≤ 200 ∧ fX3_runAhead_r la cn us ch C G sv (E κ) B = some (nI (untN thr 200 σ 0).1, E κ') ∧ Rep 0 κ' (ticksN σ m) ∧ Cor (ticksN σ m) (ticksN σ 200) := by
  obtain ⟨β, -, rfl⟩ := E_sur B
  obtain ⟨κ1, e1, hk⟩ := copy_c κ β
  have h1 := (Rep_congr h hW hk (fun _ _ => rfl)).1
  obtain ⟨κ', m, a1, a2, a3, a4⟩ := run_h 5000 0 κ1 σ h1 hW (by omega) (by omega)
  refine ⟨κ', m, a1, ?_, a3, a4⟩
  unfold fX3_runAhead_r
  rw [e1, Option.bind_some, runs_same]
  exact a2
/-- when one is gone: the class's answer from its number is the reference's from waiting -/
theorem gone_in (hW : WF σ) (hG : GTd 0 σ) (hb : σ 1 ≤ 1000000000) (hi : i < σ 0) (hm : m ≤ 200) (hc : Cor (ticksN σ m) (ticksN σ 200)) :
    (ticksN σ m (40 + 18 * i) = 2 → (if 0 < nI (ticksN σ m (40 + 18 * i + 5)) - nI (σ 1) then nI (ticksN σ m (40 + 18 * i + 5)) - nI (σ 1) else 0) = nI (untN (gon i) 200 σ 0).1) ∧ (ticksN σ m (40 + 18 * i) ≠ 2 → (untN (gon i) 200 σ 0).1 = 4294967295) := by
  have e200 := hc.at0 i
  rcases unt_spec (gon i) 200 σ 0 with ⟨k, k1, k2, k3, k4⟩ | ⟨k1, k2⟩
  · rw [k4, Nat.zero_add]
    have g2 : ticksN σ k (40 + 18 * i) = 2 := by simpa [gon] using k2
    have g200 : ticksN σ 200 (40 + 18 * i) = 2 := by
      rw [show 200 = k + (200 - k) by omega, ticks_add]
      exact ticks_gone _ _ g2
    refine ⟨fun g => ?_, fun g => absurd (e200.symm.trans g200) g⟩
    have hkm : k ≤ m := by
      by_cases z : k ≤ m
      · exact z
      · have := k3 m (by omega)
        simp [gon, g] at this
    have e5 : ticksN σ m (40 + 18 * i + 5) = ticksN σ k (40 + 18 * i + 5) := by
      rw [show m = k + (m - k) by omega, ticks_add]
      exact ticks_fix (by omega) _ _ (by omega)
    rw [e5]
    cases k with
    | zero =>
      have : σ (40 + 18 * i + 5) ≤ σ 1 + 0 := hG i hi g2
      show (if 0 < nI (σ (40 + 18 * i + 5)) - nI (σ 1) then nI (σ (40 + 18 * i + 5)) - nI (σ 1) else 0) = nI 0
      rw [if_neg]
      · rfl
      · intro z
        have hz : (nI (σ (40 + 18 * i + 5)) - nI (σ 1)).toInt = (σ (40 + 18 * i + 5) : Int) - (σ 1 : Nat) := pk_sub_toInt (by omega) (by omega)
        rw [Int32.lt_iff_toInt_lt, hz] at z
        have : (0 : Int32).toInt = 0 := by decide
        omega
    | succ k =>
      have h3 := k3 k (by omega)
      have n2 : ticksN σ k (40 + 18 * i) ≠ 2 := by simpa [gon] using h3
      have e6 : ticksN σ (k + 1) (40 + 18 * i + 5) = σ 1 + k + 1 := by
        rw [ticks_snoc] at g2 ⊢
        rw [tick_new n2 g2, ticks_1]
      rw [e6, m_sub (by omega), show σ 1 + k + 1 - σ 1 = k + 1 by omega, if_pos]
      exact (m_lt (a := 0) (by omega) (by omega)).mpr (by omega)
  · rw [k2]
    have h3 := k1 200 (by omega)
    have n2 : ticksN σ 200 (40 + 18 * i) ≠ 2 := by simpa [gon] using h3
    exact ⟨fun g => absurd (e200.trans g) n2, fun _ => rfl⟩
end AHD
