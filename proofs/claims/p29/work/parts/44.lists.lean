/-! SUMS, the taken rooms; rings and the pigeons -/
def sumN (f : Nat → Nat) : Nat → Nat
  | 0 => 0
  | n + 1 => sumN f n + f n
theorem sum_congr {f g : Nat → Nat} : ∀ n, (∀ i, i < n → f i = g i) → sumN f n = sumN g n := by
  intro n
  induction n with
  | zero => intro _; rfl
  | succ n ih => intro h; rw [sumN, sumN, ih (fun i hi => h i (by omega)), h n (by omega)]
theorem sum_zero {f : Nat → Nat} : ∀ n, (∀ i, i < n → f i = 0) → sumN f n = 0 := by
  intro n
  induction n with
  | zero => intro _; rfl
  | succ n ih => intro h; rw [sumN, ih (fun i hi => h i (by omega)), h n (by omega)]
theorem sum_one {f : Nat → Nat} {a : Nat} : ∀ n, a < n → f a = 1 → (∀ i, i < n → i ≠ a → f i = 0) → sumN f n = 1 := by
  intro n
  induction n with
  | zero => intro h; omega
  | succ n ih =>
    intro ha h1 h
    rw [sumN]
    by_cases g : a = n
    · rw [sum_zero n (fun i hi => h i (by omega) (by omega)), ← g, h1]
    · rw [ih (by omega) h1 (fun i hi hn => h i (by omega) hn), h n (by omega) (by omega)]
theorem sum_add {f g : Nat → Nat} : ∀ n, sumN (fun i => f i + g i) n = sumN f n + sumN g n := by
  intro n
  induction n with
  | zero => rfl
  | succ n ih => rw [sumN, sumN, sumN, ih]; omega
theorem sum_swap (f : Nat → Nat → Nat) (m : Nat) : ∀ n, sumN (fun k => sumN (fun i => f i k) m) n = sumN (fun i => sumN (fun k => f i k) n) m := by
  intro n
  induction n with
  | zero =>
    rw [sumN]
    exact (sum_zero m (fun i _ => rfl)).symm
  | succ n ih =>
    rw [sumN, ih, ← sum_add]
    rfl
/-- no ten pigeons in nine holes -/
theorem pigeon : ∀ n (f : Nat → Nat), (∀ i, i ≤ n → f i < n) → ∃ i j, i < j ∧ j ≤ n ∧ f i = f j := by
  intro n
  induction n with
  | zero => intro f h; exact absurd (h 0 (Nat.le_refl _)) (by omega)
  | succ n ih =>
    intro f h
    by_cases g : ∃ i, i ≤ n ∧ f i = f (n + 1)
    · obtain ⟨i, hi, e⟩ := g
      exact ⟨i, n + 1, by omega, Nat.le_refl _, e⟩
    · have gn : ∀ i, i ≤ n → f i ≠ f (n + 1) := fun i hi e => g ⟨i, hi, e⟩
      have hl := h (n + 1) (Nat.le_refl _)
      obtain ⟨i, j, hij, hj, e⟩ := ih (fun i => if f i = n then f (n + 1) else f i) (by
        intro i hi
        have h1 := h i (by omega)
        have h2 := gn i hi
        split <;> omega)
      refine ⟨i, j, hij, by omega, ?_⟩
      have h2 := gn i (by omega)
      have h3 := gn j hj
      by_cases a : f i = n
      · by_cases b : f j = n
        · omega
        · rw [if_pos a, if_neg b] at e; exact absurd e.symm h3
      · by_cases b : f j = n
        · rw [if_neg a, if_pos b] at e; exact absurd e h2
        · rw [if_neg a, if_neg b] at e; exact e
section LST
variable {σ τ κ : Nat → Nat} {d i k w v x : Nat}
def lieS (σ : Nat → Nat) : Nat := sumN (fun i => σ (40 + 18 * i + 1)) (σ 0)
theorem tk_sum (h : WF σ) : bN (tk σ k != 4294967295) = sumN (fun i => bN (occ σ i k)) (σ 0) := by
  rcases tk_cases σ k with ⟨a, b⟩ | ⟨a, b⟩
  · rw [a, sum_zero _ (fun i hi => by rw [b i hi]; rfl)]
    rfl
  · have h0 := h.1
    have e : (tk σ k != 4294967295) = true := by
      have : tk σ k ≠ 4294967295 := by omega
      simpa using this
    rw [e, sum_one (a := tk σ k) _ a (by rw [b]; rfl)]
    · rfl
    · intro j hj hn
      cases g : occ σ j k
      · rfl
      · exact absurd (tk_of h hj g).symm hn
theorem occ_sum (h : WF σ) (hi : i < σ 0) : bN (occ σ i k) = sumN (fun p => bN (σ (40 + 18 * i + (9 + p)) == k)) (σ (40 + 18 * i + 1)) := by
  cases g : occ σ i k
  · rw [sum_zero]
    · rfl
    · intro p hp
      cases g2 : σ (40 + 18 * i + (9 + p)) == k
      · rfl
      · have := occ_iff.mpr ⟨p, hp, beq_iff_eq.mp g2⟩
        rw [g] at this; cases this
  · obtain ⟨p, hp, e⟩ := occ_iff.mp g
    rw [sum_one (a := p) _ hp (by rw [e, beq_iff_eq.mpr rfl]; rfl)]
    · rfl
    · intro q hq hn
      cases g2 : σ (40 + 18 * i + (9 + q)) == k
      · rfl
      · exact absurd (h.2.2.2.2 i i q p hi hi hq hp ((beq_iff_eq.mp g2).trans e.symm)).2 hn
theorem lie_sum (h : WF σ) : sumN (fun k => bN (tk σ k != 4294967295)) 36 = lieS σ := by
  rw [sum_congr (g := fun k => sumN (fun i => bN (occ σ i k)) (σ 0)) 36 (fun k _ => tk_sum h), sum_swap]
  unfold lieS
  refine sum_congr _ (fun i hi => ?_)
  show sumN (fun k => bN (occ σ i k)) 36 = _
  rw [sum_congr (g := fun k => sumN (fun p => bN (σ (40 + 18 * i + (9 + p)) == k)) (σ (40 + 18 * i + 1))) 36 (fun k _ => occ_sum h hi), sum_swap]
  have key : ∀ m, m ≤ σ (40 + 18 * i + 1) → sumN (fun p => sumN (fun k => bN (σ (40 + 18 * i + (9 + p)) == k)) 36) m = m := by
    intro m
    induction m with
    | zero => intro _; rfl
    | succ m ih =>
      intro hm
      have c7 := (h.2.2.2.1 i hi).2.2.2.2.2.2.1 m (by omega)
      rw [sumN, ih (by omega), sum_one (a := σ (40 + 18 * i + (9 + m))) 36 c7]
      · rw [beq_iff_eq.mpr rfl]; rfl
      · intro q _ hn
        rw [beq_eq_false_iff_ne.mpr (fun e => hn e.symm)]; rfl
  exact key _ (Nat.le_refl _)
theorem sum_le {f : Nat → Nat} (c : Nat) : ∀ n, (∀ i, i < n → f i ≤ c) → sumN f n ≤ n * c := by
  intro n
  induction n with
  | zero => intro _; exact Nat.zero_le _
  | succ n ih =>
    intro h
    have := ih (fun i hi => h i (by omega))
    have h2 := h n (by omega)
    rw [sumN, Nat.succ_mul]
    omega
theorem taken4 (h : Rep d κ σ) (hW : WF σ) : ∀ n k, k ≤ 36 → 36 - k < n → fX0_takenRooms_4 (E κ) n (nI (sumN (fun k => bN (tk σ k != 4294967295)) k)) (nI k) = some (nI (sumN (fun k => bN (tk σ k != 4294967295)) 36)) := by
  intro n
  induction n with
  | zero => intro k _ h; omega
  | succ n ih =>
    intro k hk hn
    rw [fX0_takenRooms_4]
    by_cases h1 : 36 ≤ k
    · simp (disch := omega) only [Nat.add_zero, upN_ne, upN_same, m_lit, m_neg1, m_add, m_mul, m_sub, m_div, m_le, m_lt, m_eq, m_cl, m_gd, m_E, m_upd, m_isz0, m_isz1, Option.bind_some]
      rw [if_pos h1, show k = 36 by omega]
    · simp (disch := omega) only [isTaken_c h hW, fX0_takenRooms_21, m_bN, Nat.add_zero, upN_ne, upN_same, m_lit, m_neg1, m_add, m_mul, m_sub, m_div, m_le, m_lt, m_eq, m_cl, m_gd, m_E, m_upd, m_isz0, m_isz1, Option.bind_some]
      rw [if_neg h1]
      have key := ih (k + 1) (by omega) (by omega)
      rw [sumN] at key
      cases g : (tk σ k != 4294967295)
      · rw [g] at key
        rw [if_pos (rfl : false = false)]
        exact key
      · rw [g] at key
        rw [if_neg (show ¬ (true = false) from by decide)]
        exact key
theorem takenRooms_c (h : Rep d κ σ) (hW : WF σ) : fX0_takenRooms (E κ) = some (nI (lieS σ)) := by
  rw [← lie_sum hW]
  exact taken4 h hW 5000 0 (by omega) (by omega)
/-- a ring's step after step -/
def bkI (σ : Nat → Nat) (i : Nat) : Nat → Nat
  | 0 => i
  | m + 1 => blk σ (bkI σ i m)
theorem bkI_add (m : Nat) : ∀ n, bkI σ i (m + n) = bkI σ (bkI σ i m) n := by
  intro n
  induction n with
  | zero => rfl
  | succ n ih => rw [← Nat.add_assoc, bkI, bkI, ih]
theorem no11 (hl : ∀ m, m ≤ 10 → bkI σ i m < 10) (hn : ∀ m, 1 ≤ m → m ≤ 10 → bkI σ i m ≠ i) : bkI σ i 11 ≠ i := by
  intro e
  obtain ⟨a, b, hab, hb, eq⟩ := pigeon 10 (bkI σ i) (fun m hm => hl m hm)
  have h1 : bkI σ i (b + (11 - b)) = bkI σ (bkI σ i b) (11 - b) := bkI_add b (11 - b)
  have h2 : bkI σ i (a + (11 - b)) = bkI σ (bkI σ i a) (11 - b) := bkI_add a (11 - b)
  rw [← eq, ← h2, show b + (11 - b) = 11 by omega, e] at h1
  exact hn (a + (11 - b)) (by omega) (by omega) h1.symm
def rz (r : Nat) : Nat := if r = 4294967295 then 0 else r
theorem size4 (h : Rep d κ σ) (hW : WF σ) (hi : i < σ 0) : ∀ n st f, 1 ≤ st → st ≤ 11 → 12 - st < n → 12 - st < f → (∀ m, 1 ≤ m → m < st → bkI σ i m ≠ i ∧ bkI σ i m < σ 0) →
    fX0_ringSizeOf_4 (E κ) (nI i) n (nI (bkI σ i (st - 1))) (nI st) = some (nI (rz (rmo σ i f (bkI σ i st) st))) := by
  have h0 := hW.1
  intro n
  induction n with
  | zero => intro st f _ _ h; omega
  | succ n ih =>
    intro st f h1 h2 hn hf hm
    obtain ⟨f, rfl⟩ : ∃ g, f = g + 1 := ⟨f - 1, by omega⟩
    rw [fX0_ringSizeOf_4, rmo]
    have hat : bkI σ i (st - 1) < σ 0 := by
      by_cases g : st = 1
      · rw [g]; exact hi
      · exact (hm (st - 1) (by omega) (by omega)).2
    have hb := blk_in (i := bkI σ i (st - 1)) hW
    have eb : blk σ (bkI σ i (st - 1)) = bkI σ i st := by
      obtain ⟨s, rfl⟩ : ∃ s, st = s + 1 := ⟨st - 1, by omega⟩
      rfl
    have eb2 : blk σ (bkI σ i st) = bkI σ i (st + 1) := rfl
    rw [eb] at hb
    simp (disch := omega) only [blockerOf_c h hW hat, Nat.add_zero, upN_ne, upN_same, m_lit, m_neg1, m_add, m_mul, m_sub, m_div, m_le, m_lt, m_eq, m_cl, m_gd, m_E, m_upd, m_isz0, m_isz1, Option.bind_some]
    rw [eb]
    by_cases g11 : 10 < st
    · have hst : st = 11 := by omega
      subst hst
      have := no11 (σ := σ) (i := i) (fun m hm2 => by
        by_cases z : m = 0
        · rw [z]; show i < 10; omega
        · have := (hm m (by omega) (by omega)).2; omega) (fun m a b => (hm m a (by omega)).1)
      rw [if_pos g11, if_neg this, if_pos g11]
      unfold rz
      by_cases g : bkI σ i 11 = 4294967295
      · rw [if_pos g, if_pos rfl]
      · rw [if_neg g, if_pos rfl]
    · rw [if_neg g11]
      by_cases g : bkI σ i st = 4294967295
      · rw [if_pos g, if_pos g]
        rfl
      · rw [if_neg g, if_neg g]
        by_cases g2 : bkI σ i st = i
        · rw [if_pos g2, if_pos (by rw [g2])]
          unfold rz
          rw [if_neg (by omega)]
        · have g3 : ¬ nI (bkI σ i st) = nI i := fun e => g2 ((m_eq (by omega) (by omega)).mp e)
          rw [if_neg g2, if_neg g2, if_neg g11, eb2]
          have := ih (st + 1) f (by omega) (by omega) (by omega) (by omega) (fun m a b => by
            by_cases z : m = st
            · rw [z]; exact ⟨g2, by omega⟩
            · exact hm m a (by omega))
          exact this
theorem ringSize_c (h : Rep d κ σ) (hW : WF σ) (hi : i < σ 0) : fX0_ringSizeOf (E κ) (nI i) = some (nI (rz (rng σ i))) := size4 h hW hi 5000 1 5000 (by omega) (by omega) (by omega) (by omega) (fun m a b => by omega)
theorem ringSize_o (h : Rep d κ σ) (hi : σ 0 ≤ i) (h10 : i < 10) : fX0_ringSizeOf (E κ) (nI i) = some (nI 0) := by
  unfold fX0_ringSizeOf
  rw [fX0_ringSizeOf_4]
  simp (disch := omega) only [blockerOf_o h hi h10, Nat.add_zero, upN_ne, upN_same, m_lit, m_neg1, m_add, m_mul, m_sub, m_div, m_le, m_lt, m_eq, m_cl, m_gd, m_E, m_upd, m_isz0, m_isz1, Option.bind_some]
  rw [if_neg (by omega), if_pos trivial]
theorem lowest2 (h : Rep d κ σ) (hW : WF σ) : ∀ n i, i ≤ 10 → 10 - i < n → fX0_lowestInRing_2 (E κ) n (nI i) = some (nI (rgd σ (σ 0 - i) i)) := by
  have h0 := hW.1
  intro n
  induction n with
  | zero => intro i _ h; omega
  | succ n ih =>
    intro i hi hn
    rw [fX0_lowestInRing_2]
    by_cases h1 : 10 ≤ i
    · simp (disch := omega) only [Nat.add_zero, upN_ne, upN_same, m_lit, m_neg1, m_add, m_mul, m_sub, m_div, m_le, m_lt, m_eq, m_cl, m_gd, m_E, m_upd, m_isz0, m_isz1, Option.bind_some]
      rw [if_pos h1, show σ 0 - i = 0 by omega]
      rfl
    · by_cases h2 : i < σ 0
      · have hr := rmo_in (σ := σ) (i := i) 5000 (blk σ i) 1 (by omega)
        have hr2 : rng σ i = 4294967295 ∨ (1 ≤ rng σ i ∧ rng σ i ≤ 11) := hr
        have hz : rz (rng σ i) ≤ 11 ∧ (rz (rng σ i) ≤ 0 ↔ rng σ i = 4294967295) := by
          unfold rz
          split <;> omega
        simp (disch := omega) only [ringSize_c h hW h2, Nat.add_zero, upN_ne, upN_same, m_lit, m_neg1, m_add, m_mul, m_sub, m_div, m_le, m_lt, m_eq, m_cl, m_gd, m_E, m_upd, m_isz0, m_isz1, Option.bind_some]
        rw [if_neg h1, show σ 0 - i = (σ 0 - (i + 1)) + 1 by omega, rgd]
        by_cases g : rng σ i = 4294967295
        · rw [if_pos (hz.2.mpr g), if_pos g]; exact ih (i + 1) (by omega) (by omega)
        · rw [if_neg (fun z => g (hz.2.mp z)), if_neg g]
      · simp (disch := omega) only [ringSize_o h (show σ 0 ≤ i by omega), Nat.add_zero, upN_ne, upN_same, m_lit, m_neg1, m_add, m_mul, m_sub, m_div, m_le, m_lt, m_eq, m_cl, m_gd, m_E, m_upd, m_isz0, m_isz1, Option.bind_some]
        rw [if_neg h1, if_pos (Nat.le_refl 0), ih (i + 1) (by omega) (by omega), show σ 0 - (i + 1) = 0 by omega, show σ 0 - i = 0 by omega]
        rfl
theorem lowest_c (h : Rep d κ σ) (hW : WF σ) : fX0_lowestInRing (E κ) = some (nI (rgdN σ)) := lowest2 h hW 5000 0 (by omega) (by omega)
end LST
