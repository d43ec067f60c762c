/-! TEXTS: what the class reads is what the reference reads -/
/-- the class's digit test for a sign of a shape after a sign -/
def ft (s a b : Nat) : Bool := if s = 82 then decide (48 ≤ b ∧ b ≤ 51) else if s = 84 then decide (48 ≤ b ∧ b ≤ 54) else if s = 108 then decide (49 ≤ b ∧ b ≤ 57) else if s = 114 then decide (48 ≤ b ∧ b ≤ if a = 51 then 53 else 57) else if s = 116 then decide ((if a = 48 then 49 else 48) ≤ b ∧ b ≤ if a = 54 then 48 else 57) else if s = 119 then decide (48 ≤ b ∧ b ≤ 50) else decide (48 ≤ b ∧ b ≤ 57)
def shp (c : Nat) : Nat := if c = 104 then 1 else if c = 112 then 5 else if c = 114 then 4 else if c = 116 then 2 else if c = 120 then 3 else 0
section TXT
variable {t : Nat → Nat} {L q p c n lo hi : Nat} {ch mt : Nat → Int32}
theorem isDig {b lo hi : Nat} (hb : b < 1000) (hl : lo < 1000) (hh : hi < 1000) : fX2_isDigit (nI b) (nI lo) (nI hi) = some (nI (bN (decide (lo ≤ b ∧ b ≤ hi)))) := by
  simp (disch := omega) only [fX2_isDigit, Nat.add_zero, upN_ne, upN_same, m_lit, m_neg1, m_add, m_mul, m_sub, m_div, m_le, m_lt, m_eq, m_cl, m_gd, m_E, m_upd, m_isz0, m_isz1, Option.bind_some]
  by_cases g : b < lo
  · rw [if_pos g, decide_eq_false (by omega)]; rfl
  · rw [if_neg g]
    by_cases g2 : hi < b
    · rw [if_pos g2, decide_eq_false (by omega)]; rfl
    · rw [if_neg g2, decide_eq_true (by omega)]; rfl
theorem isDigZ {b lo hi : Nat} (hb : b < 1000) (hl : lo < 1000) (hh : hi < 1000) : ((fX2_isDigit (nI b) (nI lo) (nI hi)).bind fun r => gz (isz r) (some r)) = some (nI (bN (decide (lo ≤ b ∧ b ≤ hi)))) := by
  rw [isDig hb hl hh, Option.bind_some, m_bNi]
theorem fits_c {s a b : Nat} (hs : s < 256) (ha : a < 256) (hb : b < 256) : fX2_fits (nI s) (nI a) (nI b) = some (nI (bN (ft s a b))) := by
  have e : ∀ c : Nat, c < 256 → (nI s = nI c ↔ s = c) := fun c hc => m_eq (by omega) (by omega)
  have f : ∀ c : Nat, c < 256 → (nI a = nI c ↔ a = c) := fun c hc => m_eq (by omega) (by omega)
  unfold fX2_fits ft
  by_cases g1 : s = 82
  · rw [if_pos (show nI s = 82 from (e 82 (by omega)).mpr g1), if_pos g1]; exact isDigZ (lo := 48) (hi := 51) (by omega) (by omega) (by omega)
  rw [if_neg (show ¬ nI s = 82 from fun z => g1 ((e 82 (by omega)).mp z)), if_neg g1]
  by_cases g2 : s = 84
  · rw [if_pos (show nI s = 84 from (e 84 (by omega)).mpr g2), if_pos g2]; exact isDigZ (lo := 48) (hi := 54) (by omega) (by omega) (by omega)
  rw [if_neg (show ¬ nI s = 84 from fun z => g2 ((e 84 (by omega)).mp z)), if_neg g2]
  by_cases g3 : s = 108
  · rw [if_pos (show nI s = 108 from (e 108 (by omega)).mpr g3), if_pos g3]; exact isDigZ (lo := 49) (hi := 57) (by omega) (by omega) (by omega)
  rw [if_neg (show ¬ nI s = 108 from fun z => g3 ((e 108 (by omega)).mp z)), if_neg g3]
  by_cases g4 : s = 114
  · rw [if_pos (show nI s = 114 from (e 114 (by omega)).mpr g4), if_pos g4]
    by_cases k : a = 51
    · rw [if_pos (show nI a = 51 from (f 51 (by omega)).mpr k), if_pos k]; exact isDigZ (lo := 48) (hi := 53) (by omega) (by omega) (by omega)
    · rw [if_neg (show ¬ nI a = 51 from fun z => k ((f 51 (by omega)).mp z)), if_neg k]; exact isDigZ (lo := 48) (hi := 57) (by omega) (by omega) (by omega)
  rw [if_neg (show ¬ nI s = 114 from fun z => g4 ((e 114 (by omega)).mp z)), if_neg g4]
  by_cases g5 : s = 116
  · rw [if_pos (show nI s = 116 from (e 116 (by omega)).mpr g5), if_pos g5]
    unfold fX2_fits_121
    by_cases k : a = 48
    · rw [if_pos (show nI a = 48 from (f 48 (by omega)).mpr k), if_neg (show ¬ nI a = 54 from fun z => by have := (f 54 (by omega)).mp z; omega), if_pos k, if_neg (show ¬ a = 54 by omega)]; exact isDigZ (lo := 49) (hi := 57) (by omega) (by omega) (by omega)
    · rw [if_neg (show ¬ nI a = 48 from fun z => k ((f 48 (by omega)).mp z)), if_neg k]
      by_cases k2 : a = 54
      · rw [if_pos (show nI a = 54 from (f 54 (by omega)).mpr k2), if_pos k2]; exact isDigZ (lo := 48) (hi := 48) (by omega) (by omega) (by omega)
      · rw [if_neg (show ¬ nI a = 54 from fun z => k2 ((f 54 (by omega)).mp z)), if_neg k2]; exact isDigZ (lo := 48) (hi := 57) (by omega) (by omega) (by omega)
  rw [if_neg (show ¬ nI s = 116 from fun z => g5 ((e 116 (by omega)).mp z)), if_neg g5]
  by_cases g6 : s = 119
  · rw [if_pos (show nI s = 119 from (e 119 (by omega)).mpr g6), if_pos g6]; exact isDigZ (lo := 48) (hi := 50) (by omega) (by omega) (by omega)
  rw [if_neg (show ¬ nI s = 119 from fun z => g6 ((e 119 (by omega)).mp z)), if_neg g6]
  exact isDigZ (lo := 48) (hi := 57) (by omega) (by omega) (by omega)
theorem shape_c : ∀ c, c < 256 → fX2_shapeOf (nI c) = shp c := by decide +kernel
theorem at_c (hL : L ≤ 120) (ht : ∀ j, j < L → t j ≤ 255 ∧ ch j = nI (t j) ∧ mt j = nI (t j)) (hq : q < L) : fX2_at (nI L) ch (nI q) = some (nI (t q)) := by
  simp (disch := omega) only [fX2_at, Nat.add_zero, upN_ne, upN_same, m_lit, m_neg1, m_add, m_mul, m_sub, m_div, m_le, m_lt, m_eq, m_cl, m_gd, m_E, m_upd, m_isz0, m_isz1, Option.bind_some]
  rw [if_neg (by omega), if_neg (by omega), if_neg (by omega), (ht q hq).2.1]
/-- the class's reading, a sign on -/
theorem ff_step (hL : L ≤ 120) (ht : ∀ j, j < L → t j ≤ 255 ∧ ch j = nI (t j) ∧ mt j = nI (t j)) {s l v sc : Nat} (hs : s < 6) (hl : x_shl.getD s 0 = l) (hl2 : l ≤ 5) (hv : v < l) (hsc : sCh s (nI v) = nI sc) (hsc2 : sc < 256) (hq : q ≤ L) (h1 : 1 ≤ q) (f : Nat) : fX2_firstFault_19 (nI L) ch (f + 1) s (nI v) (nI q) = if q < L ∧ ft sc (t (q - 1)) (t q) = true then fX2_firstFault_19 (nI L) ch f s (nI (v + 1)) (nI (q + 1)) else some (nI q) := by
  have e1 : sLen s = nI l := by unfold sLen; rw [hl]; rfl
  have e2 : ¬ sLen s ≤ nI v := by rw [e1, m_le (by omega) (by omega)]; omega
  rw [fX2_firstFault_19]
  by_cases g : q < L
  · have t1 := ht q g
    have t2 := ht (q - 1) (by omega)
    rw [if_neg (show ¬ nI L ≤ nI q from fun e => by have := (m_le (by omega) (by omega)).mp e; omega), gz_in (decide_eq_true hs), if_neg e2, gz_in (decide_eq_true hs), hl, m_gd hv (by omega), show (1 : Int32) = nI 1 from rfl, m_sub h1, at_c hL ht (show q - 1 < L by omega), at_c hL ht g, Option.bind_some, Option.bind_some, hsc, fits_c hsc2 (by omega) (by omega), Option.bind_some]
    cases z : ft sc (t (q - 1)) (t q)
    · rw [if_pos (show nI (bN false) = 0 from rfl), if_neg (fun w => by cases w.2)]
    · rw [if_neg (show ¬ nI (bN true) = 0 from by decide), if_pos ⟨g, rfl⟩]
      show fX2_firstFault_19 (nI L) ch f s (nI v + nI 1) (nI q + nI 1) = _
      rw [m_add, m_add]
  · have : q = L := by omega
    subst this
    rw [if_pos (show nI q ≤ nI q from (m_le (by omega) (by omega)).mpr (Nat.le_refl _)), gz_in (decide_eq_true hs), if_neg e2, if_neg (fun w => g w.1)]
theorem ff_bd (hL : L ≤ 120) (ht : ∀ j, j < L → t j ≤ 255 ∧ ch j = nI (t j) ∧ mt j = nI (t j)) {s l : Nat} (hs : s < 6) (hl : x_shl.getD s 0 = l) (hl2 : l ≤ 5) (hq : q ≤ L) (f : Nat) : fX2_firstFault_19 (nI L) ch (f + 1) s (nI l) (nI q) = if q < L then (if shp (t q) = 0 then some (nI q) else fX2_firstFault_19 (nI L) ch f (shp (t q)) (nI 0) (nI (q + 1))) else some (-1) := by
  have e1 : sLen s = nI l := by unfold sLen; rw [hl]; rfl
  have e2 : sLen s ≤ nI l := by rw [e1, m_le (by omega) (by omega)]; exact Nat.le_refl _
  rw [fX2_firstFault_19]
  by_cases g : q < L
  · have t1 := ht q g
    have e3 : sEm (shp (t q)) = if shp (t q) = 0 then 1 else 0 := by
      unfold shp
      split
      · rfl
      split
      · rfl
      split
      · rfl
      split
      · rfl
      split
      · rfl
      rfl
    have e4 : shp (t q) < 6 := by
      unfold shp
      (repeat' split) <;> omega
    rw [if_neg (show ¬ nI L ≤ nI q from fun e => by have := (m_le (by omega) (by omega)).mp e; omega), gz_in (decide_eq_true hs), if_pos e2, at_c hL ht g, Option.bind_some, shape_c _ (by omega), gz_in (decide_eq_true e4), e3, if_pos g]
    by_cases z : shp (t q) = 0
    · rw [if_pos z, if_pos z, if_neg (by decide)]
    · rw [if_neg z, if_neg z, if_pos rfl]
      unfold fX2_firstFault_86
      rw [show (1 : Int32) = nI 1 from rfl, m_add]
      rfl
  · have : q = L := by omega
    subst this
    rw [if_pos (show nI q ≤ nI q from (m_le (by omega) (by omega)).mpr (Nat.le_refl _)), gz_in (decide_eq_true hs), if_pos e2, if_neg g]
-- the reference's figures
theorem dig_in : ∀ c, c < 256 → fX4_in (nI c - 48).toInt64 0 9 = some (nI (bN (decide (48 ≤ c ∧ c ≤ 57)))) := by decide +kernel
theorem fg53 {v5 v6 : Nat} (k16 : Int32 → Int32 → Int32 → Option (Int32 × Int32)) (hc : c < 256) (h5 : v5 < 1000) (h6 : v6 ≤ 10) (h61 : 1 ≤ v6) (hlo : lo < 100) (hhi : hi < 100) : fX4_figures_53 k16 (nI lo) (nI hi) (nI v5) (nI v6) (nI c - 48) (nI q) = if 48 ≤ c ∧ c ≤ 57 ∧ v5 + (c - 48) * v6 ≤ hi ∧ lo ≤ v5 + (c - 48) * v6 + v6 - 1 then k16 (nI (v5 + (c - 48) * v6)) (nI (v6 / 10)) (nI (q + 1)) else some (-1, nI q) := by
  unfold fX4_figures_53
  rw [dig_in c hc, Option.bind_some]
  by_cases g : 48 ≤ c ∧ c ≤ 57
  · have hm : (c - 48) * v6 ≤ 9 * 10 := Nat.mul_le_mul (by omega) h6
    generalize hz : (c - 48) * v6 = z at hm
    rw [decide_eq_true g, if_neg (show ¬ nI (bN true) = 0 from by decide), show (48 : Int32) = nI 48 from rfl, m_sub g.1, m_mul, m_add, hz]
    by_cases g2 : hi < v5 + z
    · rw [if_pos ((m_lt (by omega) (by omega)).mpr g2), if_neg (by omega)]
    · rw [if_neg (fun e => g2 ((m_lt (by omega) (by omega)).mp e)), m_add, show (1 : Int32) = nI 1 from rfl, m_sub (by omega), show (10 : Int32) = nI 10 from rfl, m_div (by omega) (by omega) (by omega), m_add]
      by_cases g3 : lo ≤ v5 + z + v6 - 1
      · rw [if_pos ((m_le (by omega) (by omega)).mpr g3), if_pos (by omega)]
      · rw [if_neg (fun e => g3 ((m_le (by omega) (by omega)).mp e)), if_neg (by omega)]
  · rw [decide_eq_false g, if_pos (show nI (bN false) = 0 from rfl), if_neg (fun z => g ⟨z.1, z.2.1⟩)]
theorem fg16_end (f : Nat) {v5 : Nat} {p0 : Int32} (h : p0 ≠ -1) {zs p2 p3 : Int32} {sp : Int32} : fX4_figures_16 zs mt p0 p2 p3 (f + 1) (nI v5) (nI 0) sp = some (nI v5, sp) := by
  rw [fX4_figures_16, if_pos (by decide)]
  unfold fX4_figures_122
  rw [if_neg h]
theorem fg16 (hL : L ≤ 120) (ht : ∀ j, j < L → t j ≤ 255 ∧ ch j = nI (t j) ∧ mt j = nI (t j)) (f : Nat) {v5 v6 : Nat} {p0 : Int32} (h : p0 ≠ -1) (h5 : v5 < 1000) (h6 : v6 ≤ 10) (h61 : 1 ≤ v6) (hlo : lo < 100) (hhi : hi < 100) (hq : q ≤ L) : fX4_figures_16 (nI L) mt p0 (nI lo) (nI hi) (f + 1) (nI v5) (nI v6) (nI q) = if q < L ∧ (48 ≤ t q ∧ t q ≤ 57 ∧ v5 + (t q - 48) * v6 ≤ hi ∧ lo ≤ v5 + (t q - 48) * v6 + v6 - 1) then fX4_figures_16 (nI L) mt p0 (nI lo) (nI hi) f (nI (v5 + (t q - 48) * v6)) (nI (v6 / 10)) (nI (q + 1)) else some (-1, nI q) := by
  rw [fX4_figures_16, if_neg (show ¬ nI v6 ≤ 0 from fun e => by have := (m_le (b := 0) (by omega) (by omega)).mp e; omega), if_neg h]
  by_cases g : q < L
  · have t1 := ht q g
    rw [if_neg (show ¬ nI L ≤ nI q from fun e => by have := (m_le (by omega) (by omega)).mp e; omega), m_gd (by omega) (by omega), m_cl (by omega), t1.2.2, fg53 _ (by omega) h5 h6 h61 hlo hhi]
    by_cases z : 48 ≤ t q ∧ t q ≤ 57 ∧ v5 + (t q - 48) * v6 ≤ hi ∧ lo ≤ v5 + (t q - 48) * v6 + v6 - 1
    · rw [if_pos z, if_pos ⟨g, z⟩]
    · rw [if_neg z, if_neg (fun w => z w.2)]
  · rw [if_pos (show nI L ≤ nI q from (m_le (by omega) (by omega)).mpr (by omega)), if_neg (fun w => g w.1)]
    rfl
end TXT
