section RNG
variable {σ τ : Nat → Nat} {i k w v : Nat}
theorem blk_in (h : WF σ) : blk σ i = 4294967295 ∨ blk σ i < σ 0 := by
  unfold blk
  split
  · exact Or.inl rfl
  · rcases tk_cases σ (wants σ i) with ⟨a, _⟩ | ⟨a, _⟩
    · exact Or.inl a
    · exact Or.inr a
/-- the reference's walk along a ring: at the a-th, which is 'at' -/
def rmo (σ : Nat → Nat) (i : Nat) : Nat → Nat → Nat → Nat
  | 0, _, _ => 4294967295
  | f + 1, a, n => if a = 4294967295 then 4294967295 else if a = i then n else if 10 < n then 4294967295 else rmo σ i f (blk σ a) (n + 1)
theorem ring8 (h : WF σ) (hi : i < σ 0) : ∀ f a n, (a = 4294967295 ∨ a < σ 0) → n ≤ 11 → 12 - n ≤ f → n ≥ 1 → fX4_ringOf_8 (E σ) (nI i) f (nI a) (nI n) = some (nI (rmo σ i f a n)) := by
  have h0 := h.1
  intro f
  induction f with
  | zero => intro a n _ h1 h2; omega
  | succ f ih =>
    intro a n ha hn hf hn1
    rw [fX4_ringOf_8, rmo]
    simp (disch := omega) only [fX4_ringOf_36, Nat.add_zero, upN_ne, upN_same, m_lit, m_neg1, m_add, m_mul, m_sub, m_div, m_le, m_lt, m_eq, m_cl, m_gd, m_E, m_upd, m_isz0, m_isz1, Option.bind_some]
    by_cases g : a = 4294967295
    · rw [if_pos g, if_pos g, if_neg (by omega)]
    · rw [if_neg g, if_neg g]
      by_cases g2 : a = i
      · rw [if_pos g2, if_pos g2, if_pos g2]
      · rw [if_neg g2, if_neg g2, if_neg g2]
        by_cases g3 : 10 < n
        · rw [if_pos g3, if_pos g3]
        · rw [if_neg g3, if_neg g3, blockedBy_E h (by omega), Option.bind_some]
          exact ih _ _ (blk_in h) (by omega) (by omega) (by omega)
def rng (σ : Nat → Nat) (i : Nat) : Nat := rmo σ i 5000 (blk σ i) 1
theorem ringOf_E (h : WF σ) (hi : i < σ 0) : fX4_ringOf (E σ) (nI i) = some (nI (rng σ i)) := by
  unfold fX4_ringOf
  rw [blockedBy_E h hi, Option.bind_some]
  exact ring8 h hi 5000 _ 1 (blk_in h) (by omega) (by omega) (by omega)
theorem rmo_in : ∀ f a n, n ≤ 11 → rmo σ i f a n = 4294967295 ∨ (n ≤ rmo σ i f a n ∧ rmo σ i f a n ≤ 11) := by
  intro f
  induction f with
  | zero => intro a n _; exact Or.inl rfl
  | succ f ih =>
    intro a n hn
    rw [rmo]
    split
    · exact Or.inl rfl
    · split
      · exact Or.inr ⟨Nat.le_refl _, hn⟩
      · split
        · exact Or.inl rfl
        · rcases ih (blk σ a) (n + 1) (by omega) with h | h
          · exact Or.inl h
          · exact Or.inr ⟨by omega, h.2⟩
/-- the first in a ring -/
def rgd (σ : Nat → Nat) : Nat → Nat → Nat
  | 0, _ => 4294967295
  | n + 1, i => if rng σ i = 4294967295 then rgd σ n (i + 1) else i
def rgdN (σ : Nat → Nat) : Nat := rgd σ (σ 0) 0
theorem rgd_in : ∀ n i, rgd σ n i = 4294967295 ∨ (rgd σ n i < i + n ∧ rng σ (rgd σ n i) ≠ 4294967295) := by
  intro n
  induction n with
  | zero => intro i; exact Or.inl rfl
  | succ n ih =>
    intro i
    rw [rgd]
    split
    · rcases ih (i + 1) with h | h
      · exact Or.inl h
      · exact Or.inr ⟨by omega, h.2⟩
    · rename_i g
      exact Or.inr ⟨by omega, g⟩
/-- none is in its crack or out -/
def thr (σ : Nat → Nat) : Bool := cntN σ 0 + cntN σ 1 == 0
theorem isThrough_E (h : WF σ) : fX4_isThrough (E σ) = some (nI (bN (thr σ))) := by
  have h0 := h.1
  have a0 : cntN σ 0 ≤ 10 := by have := cnt_le σ 0 (σ 0) 0; unfold cntN; omega
  have a1 : cntN σ 1 ≤ 10 := by have := cnt_le σ 1 (σ 0) 0; unfold cntN; omega
  simp (disch := omega) only [fX4_isThrough, count_E h, Nat.add_zero, upN_ne, upN_same, m_lit, m_neg1, m_add, m_mul, m_sub, m_div, m_le, m_lt, m_eq, m_cl, m_gd, m_E, m_upd, m_isz0, m_isz1, Option.bind_some]
  unfold thr
  by_cases g : cntN σ 0 + cntN σ 1 = 0
  · rw [if_pos g, beq_iff_eq.mpr g]; rfl
  · rw [if_neg g, beq_eq_false_iff_ne.mpr g]; rfl
/-- ticks until something is so, m at most; n have been -/
def untN (f : (Nat → Nat) → Bool) : Nat → (Nat → Nat) → Nat → Nat × (Nat → Nat)
  | 0, σ, n => (if f σ = true then n else 4294967295, σ)
  | m + 1, σ, n => if f σ = true then (n, σ) else untN f m (tickN σ) (n + 1)
theorem until21 (p1 : Int32) (f : (Nat → Nat) → Bool) (hf : ∀ σ, WF σ → σ 0 = v → (if p1 = nI 4294967295 then fX4_isThrough (E σ) else fX4_isIn (E σ) p1 (nI 2)) = some (nI (bN (f σ)))) : ∀ n m (σ : Nat → Nat) (b : Bool), WF σ → σ 0 = v → b = f σ → m ≤ 200 → m < n →
    fX4_until_21 p1 n (nI (200 - m)) (nI (bN b)) (E σ) = some (nI (untN f m σ (200 - m)).1, E (untN f m σ (200 - m)).2) := by
  intro n
  induction n with
  | zero => intro m σ b _ _ _ _ h; omega
  | succ n ih =>
    intro m σ b h hv hb hm hn
    rw [fX4_until_21]
    cases m with
    | zero =>
      rw [untN]
      simp (disch := omega) only [fX4_until_63, m_bN, Nat.add_zero, upN_ne, upN_same, m_lit, m_neg1, m_add, m_mul, m_sub, m_div, m_le, m_lt, m_eq, m_cl, m_gd, m_E, m_upd, m_isz0, m_isz1, Option.bind_some]
      rw [if_pos (by omega)]
      subst hb
      cases f σ
      · rw [if_pos rfl, if_neg (by decide)]
      · rw [if_neg (by decide), if_pos rfl]
    | succ m =>
      rw [untN]
      simp (disch := omega) only [fX4_until_63, fX4_until_59, m_bN, ticksOn_E h, Nat.add_zero, upN_ne, upN_same, m_lit, m_neg1, m_add, m_mul, m_sub, m_div, m_le, m_lt, m_eq, m_cl, m_gd, m_E, m_upd, m_isz0, m_isz1, Option.bind_some]
      rw [if_neg (by omega)]
      cases g : f σ
      · rw [hb, g, if_pos (rfl : false = false), if_neg (show ¬ (false = true) from by decide)]
        have h2 := tick_WF h
        have h3 := hf _ h2 (tick_0.trans hv)
        have e : ticksN σ 1 = tickN σ := rfl
        rw [e]
        have key := ih m (tickN σ) _ h2 (tick_0.trans hv) rfl (by omega) (by omega)
        rw [show 200 - m = 200 - (m + 1) + 1 by omega] at key
        by_cases gp : p1 = nI 4294967295
        · rw [if_pos gp] at h3 ⊢
          rw [h3, Option.bind_some]
          exact key
        · rw [if_neg gp] at h3 ⊢
          rw [h3, Option.bind_some]
          exact key
      · rw [hb, g, if_neg (by decide), if_pos rfl, if_neg (by decide)]
def gon (i : Nat) (σ : Nat → Nat) : Bool := σ (40 + 18 * i) == 2
theorem untilG_E (h : WF σ) (hi : i < σ 0) : fX4_until (E σ) (nI i) = some (nI (untN (gon i) 200 σ 0).1, E (untN (gon i) 200 σ 0).2) := by
  have h0 := h.1
  have hne : ¬ nI i = nI 4294967295 := fun e => by have := (m_eq (by omega) (by omega)).mp e; omega
  have hne2 : ¬ nI i = (-1 : Int32) := fun e => hne (e.trans (by decide))
  have hI : ∀ τ, WF τ → τ 0 = σ 0 → fX4_isIn (E τ) (nI i) (nI 2) = some (nI (bN (gon i τ))) := by
    intro τ ht h1
    have c1 := (ht.2.2.2.1 i (by omega)).1
    exact isIn_E (by omega) (by omega) (by omega)
  have e : fX4_until (E σ) (nI i) = (fX4_isIn (E σ) (nI i) (nI 2)).bind fun r => fX4_until_20 (nI i) 0 r (E σ) := if_neg hne2
  rw [e, hI σ h rfl, Option.bind_some]
  exact until21 (nI i) (gon i) (v := σ 0) (fun τ ht h1 => by rw [if_neg hne]; exact hI τ ht h1) 5000 200 σ _ h rfl rfl (by omega) (by omega)
-- rows copied, rows cleared
theorem copy3 (n0 n1 : Nat) (F : Nat → Int32) (a b : Nat) (ha : a + 220 ≤ n0) (hb : b + 220 ≤ n1) (h0 : n0 < 100000) (h1 : n1 < 100000) (G : Nat → Int32) : ∀ n j, j ≤ 220 → 220 - j < n → fX4_copyState_3 n0 n1 F (nI a) (nI b) n (nI j) (va_cpy F G a b j) = some (va_cpy F G a b 220) := by
  intro n
  induction n with
  | zero => intro j _ h; omega
  | succ n ih =>
    intro j hj hn
    rw [fX4_copyState_3]
    by_cases h : 220 ≤ j
    · simp (disch := omega) only [Nat.add_zero, upN_ne, upN_same, m_lit, m_neg1, m_add, m_mul, m_sub, m_div, m_le, m_lt, m_eq, m_cl, m_gd, m_E, m_upd, m_isz0, m_isz1, Option.bind_some]
      rw [if_pos h, show j = 220 by omega]
    · simp (disch := omega) only [Nat.add_zero, upN_ne, upN_same, m_lit, m_neg1, m_add, m_mul, m_sub, m_div, m_le, m_lt, m_eq, m_cl, m_gd, m_E, m_upd, m_isz0, m_isz1, Option.bind_some]
      rw [if_neg h]
      have e : upd (va_cpy F G a b j) (b + j) (F (a + j)) = va_cpy F G a b (j + 1) := by
        funext x
        unfold upd va_cpy
        by_cases g : x = b + j
        · rw [if_pos g, if_pos (by omega)]
          congr 1
          omega
        · rw [if_neg g]
          by_cases g2 : b ≤ x ∧ x < b + j
          · rw [if_pos g2, if_pos (by omega)]
          · rw [if_neg g2, if_neg (by omega)]
      rw [e]
      exact ih (j + 1) (by omega) (by omega)
theorem copyState_E (n0 n1 : Nat) (F G : Nat → Int32) {a b : Nat} (ha : a + 220 ≤ n0) (hb : b + 220 ≤ n1) (h0 : n0 < 100000) (h1 : n1 < 100000) : fX4_copyState n0 n1 F G (nI a) (nI b) = some (va_cpy F G a b 220) := by
  have e : va_cpy F G a b 0 = G := by
    funext x
    unfold va_cpy
    rw [if_neg (by omega)]
  have := copy3 n0 n1 F a b ha hb h0 h1 G 5000 0 (by omega) (by omega)
  rw [e] at this
  exact this
def clrF (G : Nat → Int32) (n : Nat) : Nat → Int32 := fun x => if x < n then nI 0 else G x
theorem clear2 (G : Nat → Int32) : ∀ n j, j ≤ 220 → 220 - j < n → fX4_clear_2 n (nI j) (clrF G j) = some (clrF G 220) := by
  intro n
  induction n with
  | zero => intro j _ h; omega
  | succ n ih =>
    intro j hj hn
    rw [fX4_clear_2]
    by_cases h : 220 ≤ j
    · simp (disch := omega) only [Nat.add_zero, upN_ne, upN_same, m_lit, m_neg1, m_add, m_mul, m_sub, m_div, m_le, m_lt, m_eq, m_cl, m_gd, m_E, m_upd, m_isz0, m_isz1, Option.bind_some]
      rw [if_pos h, show j = 220 by omega]
    · simp (disch := omega) only [Nat.add_zero, upN_ne, upN_same, m_lit, m_neg1, m_add, m_mul, m_sub, m_div, m_le, m_lt, m_eq, m_cl, m_gd, m_E, m_upd, m_isz0, m_isz1, Option.bind_some]
      rw [if_neg h]
      have e : upd (clrF G j) j (nI 0) = clrF G (j + 1) := by
        funext x
        unfold upd clrF
        by_cases g : x = j
        · rw [if_pos g, if_pos (by omega)]
        · rw [if_neg g]
          by_cases g2 : x < j
          · rw [if_pos g2, if_pos (by omega)]
          · rw [if_neg g2, if_neg (by omega)]
      rw [e]
      exact ih (j + 1) (by omega) (by omega)
theorem clear_E (G : Nat → Int32) : fX4_clear G = some (clrF G 220) := by
  have e : clrF G 0 = G := by
    funext x
    unfold clrF
    rw [if_neg (by omega)]
  have := clear2 G 5000 0 (by omega) (by omega)
  rw [e] at this
  exact this
end RNG
