section MV
variable {σ τ κ : Nat → Nat} {d i k w v x : Nat}
def drawC (κ : Nat → Nat) (i : Nat) : Nat → Nat := if κ (76 + i * 18 + 2) ≤ 0 then upN (upN κ (40 + κ (76 + i * 18 + (9 + (κ (76 + i * 18 + 1) - 1)))) 4294967295) (76 + i * 18 + 1) (κ (76 + i * 18 + 1) - 1) else upN κ (76 + i * 18 + 2) (κ (76 + i * 18 + 2) - 1)
theorem drawIn_c (hi : i < 10) (h2 : κ (76 + i * 18 + 2) < 1000) (h1 : κ (76 + i * 18 + 2) = 0 → 1 ≤ κ (76 + i * 18 + 1) ∧ κ (76 + i * 18 + 1) ≤ 9 ∧ κ (76 + i * 18 + (9 + (κ (76 + i * 18 + 1) - 1))) < 36) : fX0_drawIn (E κ) (nI i) = some (E (drawC κ i)) := by
  simp (disch := omega) only [fX0_drawIn, number_c, setNumber_c, Nat.add_zero, upN_ne, upN_same, m_lit, m_neg1, m_add, m_mul, m_sub, m_div, m_le, m_lt, m_eq, m_cl, m_gd, m_E, m_upd, m_isz0, m_isz1, Option.bind_some]
  unfold drawC
  by_cases g : κ (76 + i * 18 + 2) ≤ 0
  · obtain ⟨a, b, c⟩ := h1 (by omega)
    rw [if_pos g, if_pos g]
    rw [show 9 + κ (76 + i * 18 + 1) - 1 = 9 + (κ (76 + i * 18 + 1) - 1) by omega, setTaker_c c, Option.bind_some, setNumber_c hi (by omega)]
    rfl
  · rw [if_neg g, if_neg g]
theorem draw_o (h1 : x ≠ 76 + i * 18 + 1) (h2 : x ≠ 76 + i * 18 + 2) (h3 : x < 40 ∨ 76 ≤ x) (hr : κ (76 + i * 18 + 2) = 0 → κ (76 + i * 18 + (9 + (κ (76 + i * 18 + 1) - 1))) < 36) : drawC κ i x = κ x := by
  unfold drawC
  by_cases g : κ (76 + i * 18 + 2) ≤ 0
  · have := hr (by omega)
    rw [if_pos g, upN_ne h1, upN_ne (by omega)]
  · rw [if_neg g, upN_ne h2]
theorem draw_1 : drawC κ i (76 + i * 18 + 1) = if κ (76 + i * 18 + 2) = 0 then κ (76 + i * 18 + 1) - 1 else κ (76 + i * 18 + 1) := by
  unfold drawC
  by_cases g : κ (76 + i * 18 + 2) ≤ 0
  · rw [if_pos g, upN_same, if_pos (by omega)]
  · rw [if_neg g, upN_ne (by omega), if_neg (by omega)]
theorem draw_2 (hr : κ (76 + i * 18 + 2) = 0 → κ (76 + i * 18 + (9 + (κ (76 + i * 18 + 1) - 1))) < 36) : drawC κ i (76 + i * 18 + 2) = κ (76 + i * 18 + 2) - 1 := by
  unfold drawC
  by_cases g : κ (76 + i * 18 + 2) ≤ 0
  · have := hr (by omega)
    rw [if_pos g, upN_ne (by omega), upN_ne (by omega)]; omega
  · rw [if_neg g, upN_same]
theorem draw_t (hx : x < 36) : drawC κ i (40 + x) = if κ (76 + i * 18 + 2) = 0 ∧ x = κ (76 + i * 18 + (9 + (κ (76 + i * 18 + 1) - 1))) then 4294967295 else κ (40 + x) := by
  unfold drawC
  by_cases g : κ (76 + i * 18 + 2) ≤ 0
  · rw [if_pos g, upN_ne (by omega)]
    by_cases g2 : x = κ (76 + i * 18 + (9 + (κ (76 + i * 18 + 1) - 1)))
    · rw [if_pos ⟨by omega, g2⟩, ← g2, upN_same]
    · rw [if_neg (fun z => g2 z.2), upN_ne (by omega)]
  · rw [if_neg g, upN_ne (by omega), if_neg (fun z => by omega)]
def shfC (κ : Nat → Nat) (i m k : Nat) : Nat → Nat := fun j => if j = 76 + i * 18 + 9 then k else if 76 + i * 18 + 9 < j ∧ j ≤ 76 + i * 18 + 9 + m then κ (j - 1) else κ j
def putC (κ : Nat → Nat) (i m k : Nat) : Nat → Nat := upN (upN (upN (shfC κ i m k) (76 + i * 18 + 1) (m + 1)) (76 + i * 18) 1) (40 + k) i
theorem put10 (hi : i < 10) (hk : k < 36) (m : Nat) : ∀ v n (κ : Nat → Nat), v < n → v ≤ 8 → m ≤ 8 → fX0_putHead_10 (nI i) (nI k) n (nI m) (nI v) (E κ) = some (E (upN (upN (upN (shfC κ i v k) (76 + i * 18 + 1) (m + 1)) (76 + i * 18) 1) (40 + k) i)) := by
  intro v
  induction v with
  | zero =>
    intro n κ hn _ _
    obtain ⟨n, rfl⟩ : ∃ m, n = m + 1 := ⟨n - 1, by omega⟩
    rw [fX0_putHead_10]
    have e : shfC κ i 0 k = upN κ (76 + i * 18 + 9) k := by
      funext j
      unfold upN shfC
      by_cases h : j = 76 + i * 18 + 9
      · rw [if_pos h, if_pos h]
      · rw [if_neg h, if_neg h, if_neg (by omega)]
    rw [e]
    simp (disch := omega) only [number_c, setNumber_c, setTaker_c, Nat.add_zero, upN_ne, upN_same, m_lit, m_neg1, m_add, m_mul, m_sub, m_div, m_le, m_lt, m_eq, m_cl, m_gd, m_E, m_upd, m_isz0, m_isz1, Option.bind_some]
    rw [if_pos (Nat.le_refl 0)]
  | succ v ih =>
    intro n κ hn hv hm
    obtain ⟨n, rfl⟩ : ∃ m, n = m + 1 := ⟨n - 1, by omega⟩
    rw [fX0_putHead_10, pk_m1 v]
    simp (disch := omega) only [number_c, setNumber_c, Nat.add_zero, upN_ne, upN_same, m_lit, m_neg1, m_add, m_mul, m_sub, m_div, m_le, m_lt, m_eq, m_cl, m_gd, m_E, m_upd, m_isz0, m_isz1, Option.bind_some]
    rw [if_neg (by omega), ih n _ (by omega) (by omega) hm]
    congr 5
    funext j
    unfold upN shfC
    dsimp only
    by_cases h1 : j = 76 + i * 18 + 9
    · rw [if_pos h1, if_pos h1]
    · rw [if_neg h1, if_neg h1]
      by_cases h2 : 76 + i * 18 + 9 < j ∧ j ≤ 76 + i * 18 + 9 + v
      · rw [if_pos h2, if_neg (show ¬ j - 1 = 76 + i * 18 + (9 + (v + 1)) by omega), if_pos (show 76 + i * 18 + 9 < j ∧ j ≤ 76 + i * 18 + 9 + (v + 1) by omega)]
      · rw [if_neg h2]
        by_cases h3 : j = 76 + i * 18 + (9 + (v + 1))
        · rw [if_pos h3, if_pos (by omega)]
          congr 1
          omega
        · rw [if_neg h3, if_neg (by omega)]
theorem putHead_c (hi : i < 10) (hk : k < 36) (hm : κ (76 + i * 18 + 1) ≤ 8) : fX0_putHead (E κ) (nI i) (nI k) = some (E (putC κ i (κ (76 + i * 18 + 1)) k)) := by
  unfold fX0_putHead
  rw [show (1 : Int32) = nI 1 from rfl, number_c hi (by omega), Option.bind_some]
  exact put10 hi hk _ _ 5000 κ (by omega) hm hm
theorem put_o {m : Nat} (hi : i < 10) (hk : k < 36) (h : x < 40 ∨ (76 ≤ x ∧ (x < 76 + i * 18 ∨ 76 + i * 18 + 18 ≤ x)) ∨ (76 + i * 18 + 1 < x ∧ x < 76 + i * 18 + 9)) (hm : m ≤ 8) : putC κ i m k x = κ x := by
  unfold putC
  rw [upN_ne (by omega), upN_ne (by omega), upN_ne (by omega)]
  unfold shfC
  rw [if_neg (by omega), if_neg (by omega)]
theorem put_0 {m : Nat} (hk : k < 36) : putC κ i m k (76 + i * 18) = 1 := by
  unfold putC
  rw [upN_ne (by omega), upN_same]
theorem put_1 {m : Nat} (hk : k < 36) : putC κ i m k (76 + i * 18 + 1) = m + 1 := by
  unfold putC
  rw [upN_ne (by omega), upN_ne (by omega), upN_same]
theorem put_t {m : Nat} (hx : x < 36) : putC κ i m k (40 + x) = if x = k then i else κ (40 + x) := by
  unfold putC
  by_cases g : x = k
  · rw [if_pos g, g, upN_same]
  · rw [if_neg g, upN_ne (by omega), upN_ne (by omega), upN_ne (by omega)]
    unfold shfC
    rw [if_neg (by omega), if_neg (by omega)]
theorem put_r0 {m : Nat} (hk : k < 36) : putC κ i m k (76 + i * 18 + (9 + 0)) = k := by
  unfold putC
  rw [upN_ne (by omega), upN_ne (by omega), upN_ne (by omega)]
  unfold shfC
  rw [if_pos (by omega)]
theorem put_r {m p : Nat} (hk : k < 36) (hp : p + 1 ≤ m) : putC κ i m k (76 + i * 18 + (9 + (p + 1))) = κ (76 + i * 18 + (9 + p)) := by
  unfold putC
  rw [upN_ne (by omega), upN_ne (by omega), upN_ne (by omega)]
  unfold shfC
  rw [if_neg (by omega), if_pos (by omega)]
  congr 1
def eatC (κ : Nat → Nat) (i : Nat) : Nat → Nat := if κ (76 + i * 18 + 1) = 0 then upN (upN (upN κ (76 + i * 18 + 3) (κ (76 + i * 18 + 3) + 1)) (76 + i * 18) 2) (76 + i * 18 + 5) (κ 2) else upN κ (76 + i * 18 + 3) (κ (76 + i * 18 + 3) + 1)
theorem eatOne_c (hi : i < 10) (hm : κ (76 + i * 18 + 1) ≤ 9) : fX0_eatOnePart (E κ) (nI i) = some (E (eatC κ i)) := by
  simp (disch := omega) only [fX0_eatOnePart, number_c, setNumber_c, Nat.add_zero, upN_ne, upN_same, m_lit, m_neg1, m_add, m_mul, m_sub, m_div, m_le, m_lt, m_eq, m_cl, m_gd, m_E, m_upd, m_isz0, m_isz1, Option.bind_some]
  unfold eatC
  by_cases g : κ (76 + i * 18 + 1) = 0
  · rw [if_pos g, if_pos g]
  · rw [if_neg g, if_neg g]
theorem eatC_o (h0 : x ≠ 76 + i * 18) (h3 : x ≠ 76 + i * 18 + 3) (h5 : x ≠ 76 + i * 18 + 5) : eatC κ i x = κ x := by
  unfold eatC
  split
  · rw [upN_ne h5, upN_ne h0, upN_ne h3]
  · rw [upN_ne h3]
theorem eatC_0 : eatC κ i (76 + i * 18) = if κ (76 + i * 18 + 1) = 0 then 2 else κ (76 + i * 18) := by
  unfold eatC
  by_cases g : κ (76 + i * 18 + 1) = 0
  · rw [if_pos g, if_pos g, upN_ne (by omega), upN_same]
  · rw [if_neg g, if_neg g, upN_ne (by omega)]
theorem eatC_5 : eatC κ i (76 + i * 18 + 5) = if κ (76 + i * 18 + 1) = 0 then κ 2 else κ (76 + i * 18 + 5) := by
  unfold eatC
  by_cases g : κ (76 + i * 18 + 1) = 0
  · rw [if_pos g, if_pos g, upN_same]
  · rw [if_neg g, if_neg g, upN_ne (by omega)]
theorem eatC_3 : eatC κ i (76 + i * 18 + 3) = κ (76 + i * 18 + 3) + 1 := by
  unfold eatC
  split
  · rw [upN_ne (by omega), upN_ne (by omega), upN_same]
  · rw [upN_same]
theorem fr_no {b : Bool} (h : fr σ k = b) (hb : b = true) : tk σ k = 4294967295 := fr_tk (h.trans hb)
/-- i's own cells from its numbers one by one -/
theorem nine (P : Nat → Prop) (h0 : P 0) (h1 : P 1) (h2 : P 2) (h3 : P 3) (h4 : P 4) (h5 : P 5) (h6 : P 6) (h7 : P 7) (h8 : P 8) : ∀ w, w < 9 → P w := by
  intro w hw
  have : w = 0 ∨ w = 1 ∨ w = 2 ∨ w = 3 ∨ w = 4 ∨ w = 5 ∨ w = 6 ∨ w = 7 ∨ w = 8 := by omega
  rcases this with rfl | rfl | rfl | rfl | rfl | rfl | rfl | rfl | rfl <;> assumption
theorem mv_wait (h : Rep d κ σ) (hW : WF σ) (hi : i < σ 0) : Rep d (upN (upN κ (76 + i * 18 + 4) (κ (76 + i * 18 + 4) + 1)) 3 (κ 3 + 1)) (waitN σ i) := by
  have h0 := hW.1
  have hc : Cor σ (waitN σ i) := waitN_cor
  obtain ⟨a0, a1, a2, a3, a4, a5, a6, a7, a8⟩ := h
  have w0 : waitN σ i 0 = σ 0 := hc.lo (by omega) (by omega) (by omega)
  refine ⟨?_, ?_, ?_, ?_, fun k hk => ?_, fun k hk => ?_, fun j w hj hw => ?_, fun j p hj hp => ?_, fun j hj hj2 => ?_⟩
  · rw [upN_ne (by omega), upN_ne (by omega), w0, a0]
  · rw [upN_ne (by omega), upN_ne (by omega), hc.lo (by omega) (by omega) (by omega), a1]
  · rw [upN_ne (by omega), upN_ne (by omega), a2]
    unfold waitN
    rw [upN_ne (by omega), upN_ne (by omega)]
  · rw [upN_same, a3]
    unfold waitN
    rw [upN_same]
  · rw [upN_ne (by omega), upN_ne (by omega), a4 k hk, hc.lo (by omega) (by omega) (by omega)]
  · rw [upN_ne (by omega), upN_ne (by omega), a5 k hk, hc.tk hW]
  · rw [w0] at hj
    unfold waitN
    rw [upN_ne (show 76 + j * 18 + w ≠ 3 by omega), upN_ne (show 40 + 18 * j + w ≠ 3 by omega)]
    by_cases g : j = i ∧ w = 4
    · obtain ⟨rfl, rfl⟩ := g
      rw [upN_same, upN_same, a6 j 4 hi (by omega)]
    · rw [upN_ne (by omega), upN_ne (by omega), a6 j w hj hw]
  · rw [w0] at hj
    rw [hc.at j 1 (by omega) (by omega) (by omega)] at hp
    have l := CW_lies (hW.2.2.2.1 j hj)
    rw [upN_ne (by omega), upN_ne (by omega), a7 j p hj hp, hc.at j (9 + p) (by omega) (by omega) (by omega)]
  · rw [w0] at hj
    rw [upN_ne (by omega), upN_ne (by omega), a8 j hj hj2]
theorem mv_go (h : Rep d κ σ) (hW : WF σ) (hi : i < σ 0) (h1 : σ (40 + 18 * i) ≤ 1) (hk : k < 36) (hn : tk σ k = 4294967295) : Rep d (putC (drawC κ i) i (drawC κ i (76 + i * 18 + 1)) k) (goN σ i k) ∧ drawC κ i (76 + i * 18 + 1) ≤ 8 := by
  have h0 := hW.1
  obtain ⟨c1, c2, c3, c4, c5, c6, c7, c8, c9, c10, c11⟩ := hW.2.2.2.1 i hi
  have hR := h
  obtain ⟨a0, a1, a2, a3, a4, a5, a6, a7, a8⟩ := h
  have n1 := a6 i 1 hi (by omega)
  have n2 := a6 i 2 hi (by omega)
  have hl : σ (40 + 18 * i + 2) = 0 → 1 ≤ σ (40 + 18 * i + 1) := by
    intro hp
    by_cases g : σ (40 + 18 * i) = 0
    · have := c11 g; omega
    · exact c8 (by omega)
  have hlast : κ (76 + i * 18 + 2) = 0 → κ (76 + i * 18 + (9 + (κ (76 + i * 18 + 1) - 1))) = σ (40 + 18 * i + (9 + (σ (40 + 18 * i + 1) - 1))) := by
    intro z
    have := hl (by omega)
    rw [n1]
    exact a7 i _ hi (by omega)
  have hr : κ (76 + i * 18 + 2) = 0 → κ (76 + i * 18 + (9 + (κ (76 + i * 18 + 1) - 1))) < 36 := by
    intro z
    have := hl (by omega)
    rw [hlast z]
    exact c7 _ (by omega)
  have m1 : drawC κ i (76 + i * 18 + 1) = if σ (40 + 18 * i + 2) = 0 then σ (40 + 18 * i + 1) - 1 else σ (40 + 18 * i + 1) := by rw [draw_1, n1, n2]
  have hm : drawC κ i (76 + i * 18 + 1) ≤ 8 := by rw [m1]; split <;> omega
  have g1 : goN σ i k (40 + 18 * i + 1) = drawC κ i (76 + i * 18 + 1) + 1 := by
    rw [go_1, m1]
    split
    · have := hl (by assumption); omega
    · rfl
  have hi10 : i < 10 := by omega
  have g0 : goN σ i k 0 = σ 0 := go_o (by omega)
  refine ⟨?_, hm⟩
  generalize hM : drawC κ i (76 + i * 18 + 1) = m at hm g1 ⊢
  refine ⟨?_, ?_, ?_, ?_, fun x hx => ?_, fun x hx => ?_, fun j w hj hw => ?_, fun j p hj hp => ?_, fun j hj hj2 => ?_⟩
  · rw [put_o hi10 hk (by omega) hm, draw_o (by omega) (by omega) (by omega) hr, a0, go_o (by omega)]
  · rw [put_o hi10 hk (by omega) hm, draw_o (by omega) (by omega) (by omega) hr, a1, go_o (by omega)]
  · rw [put_o hi10 hk (by omega) hm, draw_o (by omega) (by omega) (by omega) hr, a2, go_o (by omega)]
  · rw [put_o hi10 hk (by omega) hm, draw_o (by omega) (by omega) (by omega) hr, a3, go_o (by omega)]
  · rw [put_o hi10 hk (by omega) hm, draw_o (by omega) (by omega) (by omega) hr, a4 x hx, go_o (by omega)]
  · rw [put_t hx, draw_t hx, tk_go hW hi hk hn h1, a5 x hx, n2]
    by_cases g : x = k
    · rw [if_pos g, if_pos g]
    · rw [if_neg g, if_neg g]
      by_cases z : σ (40 + 18 * i + 2) = 0
      · rw [hlast (by omega)]
      · rw [if_neg (fun y => z y.1), if_neg (fun y => z y.1)]
  · rw [g0] at hj
    by_cases hji : j = i
    · subst hji
      revert w
      refine nine _ ?_ ?_ ?_ ?_ ?_ ?_ ?_ ?_ ?_
      · exact (put_0 hk).trans go_0.symm
      · rw [put_1 hk, g1]
      · rw [put_o hi10 hk (by omega) hm, draw_2 hr, go_2, n2]
      all_goals rw [put_o hi10 hk (by omega) hm, draw_o (by omega) (by omega) (by omega) hr, go_o (by omega), a6 j _ hi (by omega)]
    · rw [put_o hi10 hk (by omega) hm, draw_o (by omega) (by omega) (by omega) hr, go_o (by omega), a6 j w hj hw]
  · rw [g0] at hj
    by_cases hji : j = i
    · subst hji
      rw [g1] at hp
      cases p with
      | zero => rw [put_r0 hk]; exact go_h.symm
      | succ p =>
        have hpl : p < σ (40 + 18 * j + 1) ∧ p + 1 ≤ 8 := by
          rw [m1] at hM
          split at hM <;> omega
        rw [put_r hk (by omega), draw_o (by omega) (by omega) (by omega) hr, go_r (by omega) (by omega), a7 j p hi hpl.1]
    · have e1 : goN σ i k (40 + 18 * j + 1) = σ (40 + 18 * j + 1) := go_o (by omega)
      rw [e1] at hp
      have l := CW_lies (hW.2.2.2.1 j hj)
      rw [put_o hi10 hk (by omega) hm, draw_o (by omega) (by omega) (by omega) hr, go_o (by omega), a7 j p hj hp]
  · rw [g0] at hj
    rw [put_o hi10 hk (by omega) hm, draw_o (by omega) (by omega) (by omega) hr, a8 j hj hj2]
theorem mv_eat (h : Rep 1 κ σ) (hW : WF σ) (hi : i < σ 0) (h1 : σ (40 + 18 * i) = 1) : Rep 1 (eatC (drawC κ i) i) (eatN σ i) ∧ drawC κ i (76 + i * 18 + 1) ≤ 9 := by
  have h0 := hW.1
  obtain ⟨c1, c2, c3, c4, c5, c6, c7, c8, c9, c10, c11⟩ := hW.2.2.2.1 i hi
  have g8 := c8 h1
  obtain ⟨a0, a1, a2, a3, a4, a5, a6, a7, a8⟩ := h
  have n1 := a6 i 1 hi (by omega)
  have n2 := a6 i 2 hi (by omega)
  have n0 : κ (76 + i * 18) = σ (40 + 18 * i) := a6 i 0 hi (by omega)
  have hlast : κ (76 + i * 18 + (9 + (κ (76 + i * 18 + 1) - 1))) = σ (40 + 18 * i + (9 + (σ (40 + 18 * i + 1) - 1))) := by
    rw [n1]
    exact a7 i _ hi (by omega)
  have hr : κ (76 + i * 18 + 2) = 0 → κ (76 + i * 18 + (9 + (κ (76 + i * 18 + 1) - 1))) < 36 := by
    intro _
    rw [hlast]
    exact c7 _ (by omega)
  have m1 : drawC κ i (76 + i * 18 + 1) = eat2 σ i (40 + 18 * i + 1) := by rw [draw_1, n1, n2, eat2_1]
  have hm : drawC κ i (76 + i * 18 + 1) ≤ 9 := by rw [m1, eat2_1]; split <;> omega
  have hi10 : i < 10 := by omega
  have g0 : eatN σ i 0 = σ 0 := eat_o (by omega)
  have d2 : drawC κ i 2 = σ 1 + 1 := by rw [draw_o (by omega) (by omega) (by omega) hr, a2]
  have d0 : drawC κ i (76 + i * 18) = σ (40 + 18 * i) := by rw [draw_o (by omega) (by omega) (by omega) hr, n0]
  refine ⟨?_, hm⟩
  refine ⟨?_, ?_, ?_, ?_, fun x hx => ?_, fun x hx => ?_, fun j w hj hw => ?_, fun j p hj hp => ?_, fun j hj hj2 => ?_⟩
  · rw [eatC_o (by omega) (by omega) (by omega), draw_o (by omega) (by omega) (by omega) hr, a0, eat_o (by omega)]
  · rw [eatC_o (by omega) (by omega) (by omega), draw_o (by omega) (by omega) (by omega) hr, a1, eat_o (by omega)]
  · rw [eatC_o (by omega) (by omega) (by omega), draw_o (by omega) (by omega) (by omega) hr, a2, eat_o (by omega)]
  · rw [eatC_o (by omega) (by omega) (by omega), draw_o (by omega) (by omega) (by omega) hr, a3, eat_o (by omega)]
  · rw [eatC_o (by omega) (by omega) (by omega), draw_o (by omega) (by omega) (by omega) hr, a4 x hx, eat_o (by omega)]
  · rw [eatC_o (by omega) (by omega) (by omega), draw_t hx, tk_eat hW hi h1, a5 x hx, n2, hlast]
  · rw [g0] at hj
    by_cases hji : j = i
    · subst hji
      revert w
      refine nine _ ?_ ?_ ?_ ?_ ?_ ?_ ?_ ?_ ?_
      · show eatC (drawC κ j) j (76 + j * 18) = eatN σ j (40 + 18 * j)
        rw [eatC_0, eat_0, m1, d0]
      · rw [eatC_o (by omega) (by omega) (by omega), m1, eat_x (by omega) (by omega)]
      · rw [eatC_o (by omega) (by omega) (by omega), draw_2 hr, eat_x (by omega) (by omega), eat2_2, n2]
      · rw [eatC_3, draw_o (by omega) (by omega) (by omega) hr, eat_x (by omega) (by omega), eat2_3, a6 j 3 hi (by omega)]
      · rw [eatC_o (by omega) (by omega) (by omega), draw_o (by omega) (by omega) (by omega) hr, eat_x (by omega) (by omega), eat2_o (by omega) (by omega) (by omega), a6 j 4 hi (by omega)]
      · rw [eatC_5, eat_5, m1, d2, draw_o (by omega) (by omega) (by omega) hr, a6 j 5 hi (by omega)]
      all_goals rw [eatC_o (by omega) (by omega) (by omega), draw_o (by omega) (by omega) (by omega) hr, eat_o (by omega), a6 j _ hi (by omega)]
    · rw [eatC_o (by omega) (by omega) (by omega), draw_o (by omega) (by omega) (by omega) hr, eat_o (by omega), a6 j w hj hw]
  · rw [g0] at hj
    by_cases hji : j = i
    · subst hji
      have l : eatN σ j (40 + 18 * j + 1) ≤ σ (40 + 18 * j + 1) := by rw [eat_x (by omega) (by omega), eat2_1]; split <;> omega
      rw [eatC_o (by omega) (by omega) (by omega), draw_o (by omega) (by omega) (by omega) hr, eat_o (by omega), a7 j p hi (by omega)]
    · have e1 : eatN σ i (40 + 18 * j + 1) = σ (40 + 18 * j + 1) := eat_o (by omega)
      rw [e1] at hp
      have l := CW_lies (hW.2.2.2.1 j hj)
      rw [eatC_o (by omega) (by omega) (by omega), draw_o (by omega) (by omega) (by omega) hr, eat_o (by omega), a7 j p hj hp]
  · rw [g0] at hj
    rw [eatC_o (by omega) (by omega) (by omega), draw_o (by omega) (by omega) (by omega) hr, a8 j hj hj2]
end MV
