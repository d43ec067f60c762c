def fq (L : Nat) (t : Nat → Nat) (s q : Nat) : Bool := decide (q < L) && ft s (t (q - 1)) (t q)
section RD
variable {t : Nat → Nat} {L q p c n lo hi o k : Nat} {ch mt : Nat → Int32} {σ κ : Nat → Nat} {la cn us : Int32} {G sv T B : Nat → Int32} {rf ac ou sp : Int32} {N O dy kp ik : Nat → Int32}
theorem fq_iff {s : Nat} : fq L t s q = true ↔ q < L ∧ ft s (t (q - 1)) (t q) = true := by
  unfold fq
  rw [Bool.and_eq_true, decide_eq_true_iff]
theorem f82 : fq L t 82 q = true ↔ q < L ∧ 48 ≤ t q ∧ t q ≤ 51 := by rw [fq_iff]; simp [ft]
theorem f84 : fq L t 84 q = true ↔ q < L ∧ 48 ≤ t q ∧ t q ≤ 54 := by rw [fq_iff]; simp [ft]
theorem f108 : fq L t 108 q = true ↔ q < L ∧ 49 ≤ t q ∧ t q ≤ 57 := by rw [fq_iff]; simp [ft]
theorem f119 : fq L t 119 q = true ↔ q < L ∧ 48 ≤ t q ∧ t q ≤ 50 := by rw [fq_iff]; simp [ft]
theorem f99 : fq L t 99 q = true ↔ q < L ∧ 48 ≤ t q ∧ t q ≤ 57 := by rw [fq_iff]; simp [ft]
theorem f114 : fq L t 114 (q + 1) = true ↔ q + 1 < L ∧ 48 ≤ t (q + 1) ∧ t (q + 1) ≤ if t q = 51 then 53 else 57 := by rw [fq_iff]; simp [ft]
theorem f116 : fq L t 116 (q + 1) = true ↔ q + 1 < L ∧ (if t q = 48 then 49 else 48) ≤ t (q + 1) ∧ t (q + 1) ≤ if t q = 54 then 48 else 57 := by rw [fq_iff]; simp [ft]
theorem ff_st (hL : L ≤ 120) (ht : ∀ j, j < L → t j ≤ 255 ∧ ch j = nI (t j) ∧ mt j = nI (t j)) {s l v sc : Nat} (hs : s < 6) (hl : x_shl.getD s 0 = l) (hl2 : l ≤ 5) (hv : v < l) (hsc : sCh s (nI v) = nI sc) (hsc2 : sc < 256) (hq : q ≤ L) (h1 : 1 ≤ q) (f : Nat) : fX2_firstFault_19 (nI L) ch (f + 1) s (nI v) (nI q) = if fq L t sc q = true then fX2_firstFault_19 (nI L) ch f s (nI (v + 1)) (nI (q + 1)) else some (nI q) := by
  rw [ff_step hL ht hs hl hl2 hv hsc hsc2 hq h1 f]
  by_cases g : fq L t sc q = true
  · rw [if_pos g, if_pos (fq_iff.mp g)]
  · rw [if_neg g, if_neg (fun e => g (fq_iff.mpr e))]
theorem fgN {p1 p2 p3 zs : Int32} : fX4_figures rf zs ac sp ou mt N T O dy kp ik (-1) p1 p2 p3 = some (-1, sp) := by
  have e : ∀ v5 v6, fX4_figures_16 zs mt (-1) p2 p3 5000 v5 v6 sp = some (-1, sp) := by
    intro v5 v6
    rw [fX4_figures_16]
    unfold fX4_figures_122
    split
    · rfl
    · rfl
  unfold fX4_figures fX4_figures_14
  split
  · exact e _ _
  · exact e _ _
theorem fgA (hL : L ≤ 120) (ht : ∀ j, j < L → t j ≤ 255 ∧ ch j = nI (t j) ∧ mt j = nI (t j)) {p0 : Int32} (h : p0 ≠ -1) (hlo : lo ≤ 9) (hhi : hi ≤ 9) (hq : q ≤ L) : fX4_figures rf (nI L) ac (nI q) ou mt N T O dy kp ik p0 1 (nI lo) (nI hi) = if q < L ∧ 48 + lo ≤ t q ∧ t q ≤ 48 + hi then some (nI (t q - 48), nI (q + 1)) else some (-1, nI q) := by
  have e : fX4_figures rf (nI L) ac (nI q) ou mt N T O dy kp ik p0 1 (nI lo) (nI hi) = fX4_figures_16 (nI L) mt p0 (nI lo) (nI hi) 5000 (nI 0) (nI 1) (nI q) := rfl
  rw [e, fg16 hL ht 4999 h (by omega) (by omega) (by omega) (by omega) (by omega) hq]
  by_cases g : q < L ∧ 48 + lo ≤ t q ∧ t q ≤ 48 + hi
  · rw [if_pos g, if_pos (by omega), show 1 / 10 = 0 from rfl, fg16_end 4998 h, Nat.zero_add, Nat.mul_one]
  · rw [if_neg g, if_neg (by omega)]
theorem fgB16 (hL : L ≤ 120) (ht : ∀ j, j < L → t j ≤ 255 ∧ ch j = nI (t j) ∧ mt j = nI (t j)) (f : Nat) {p0 : Int32} (h : p0 ≠ -1) (hlo : lo < 100) (hhi : hi < 100) (hq : q ≤ L) : fX4_figures_16 (nI L) mt p0 (nI lo) (nI hi) (f + 1 + 1 + 1) (nI 0) (nI 10) (nI q) = if q < L ∧ (48 ≤ t q ∧ t q ≤ 57 ∧ (t q - 48) * 10 ≤ hi ∧ lo ≤ (t q - 48) * 10 + 9) then (if q + 1 < L ∧ (48 ≤ t (q + 1) ∧ t (q + 1) ≤ 57 ∧ (t q - 48) * 10 + (t (q + 1) - 48) ≤ hi ∧ lo ≤ (t q - 48) * 10 + (t (q + 1) - 48)) then some (nI ((t q - 48) * 10 + (t (q + 1) - 48)), nI (q + 1 + 1)) else some (-1, nI (q + 1))) else some (-1, nI q) := by
  rw [fg16 hL ht (f + 1 + 1) h (by omega) (by omega) (by omega) (by omega) (by omega) hq]
  by_cases g : q < L ∧ (48 ≤ t q ∧ t q ≤ 57 ∧ (t q - 48) * 10 ≤ hi ∧ lo ≤ (t q - 48) * 10 + 9)
  · have k1 : 0 + (t q - 48) * 10 < 1000 := by omega
    rw [if_pos g, if_pos (by omega), show (10 : Nat) / 10 = 1 from rfl, fg16 hL ht (f + 1) h k1 (by omega) (by omega) (by omega) (by omega) (by omega), show (1 : Nat) / 10 = 0 from rfl, fg16_end f h, Nat.zero_add, Nat.mul_one]
    by_cases g2 : q + 1 < L ∧ (48 ≤ t (q + 1) ∧ t (q + 1) ≤ 57 ∧ (t q - 48) * 10 + (t (q + 1) - 48) ≤ hi ∧ lo ≤ (t q - 48) * 10 + (t (q + 1) - 48))
    · rw [if_pos g2, if_pos (by omega)]
    · rw [if_neg g2, if_neg (by omega)]
  · rw [if_neg g, if_neg (by omega)]
theorem fig2 {zs p0 p2 p3 : Int32} : fX4_figures rf zs ac sp ou mt N T O dy kp ik p0 2 p2 p3 = fX4_figures_16 zs mt p0 p2 p3 (4997 + 1 + 1 + 1) (nI 0) (nI 10) sp := if_pos rfl
theorem fgB (hL : L ≤ 120) (ht : ∀ j, j < L → t j ≤ 255 ∧ ch j = nI (t j) ∧ mt j = nI (t j)) {p0 : Int32} (h : p0 ≠ -1) (hlo : lo < 100) (hhi : hi < 100) (hq : q ≤ L) : fX4_figures rf (nI L) ac (nI q) ou mt N T O dy kp ik p0 2 (nI lo) (nI hi) = if q < L ∧ (48 ≤ t q ∧ t q ≤ 57 ∧ (t q - 48) * 10 ≤ hi ∧ lo ≤ (t q - 48) * 10 + 9) then (if q + 1 < L ∧ (48 ≤ t (q + 1) ∧ t (q + 1) ≤ 57 ∧ (t q - 48) * 10 + (t (q + 1) - 48) ≤ hi ∧ lo ≤ (t q - 48) * 10 + (t (q + 1) - 48)) then some (nI ((t q - 48) * 10 + (t (q + 1) - 48)), nI (q + 1 + 1)) else some (-1, nI (q + 1))) else some (-1, nI q) := fig2.trans (fgB16 hL ht 4997 h hlo hhi hq)
theorem fgR (hL : L ≤ 120) (ht : ∀ j, j < L → t j ≤ 255 ∧ ch j = nI (t j) ∧ mt j = nI (t j)) {p0 : Int32} (h : p0 ≠ -1) (hq : q ≤ L) : fX4_figures rf (nI L) ac (nI q) ou mt N T O dy kp ik p0 2 0 35 = if fq L t 82 q = true then (if fq L t 114 (q + 1) = true then some (nI ((t q - 48) * 10 + (t (q + 1) - 48)), nI (q + 1 + 1)) else some (-1, nI (q + 1))) else some (-1, nI q) := by
  refine (fgB (lo := 0) (hi := 35) hL ht h (by omega) (by omega) hq).trans ?_
  by_cases g : fq L t 82 q = true
  · have g1 := f82.mp g
    rw [if_pos g, if_pos (by omega)]
    by_cases g2 : fq L t 114 (q + 1) = true
    · have g3 := f114.mp g2
      rw [if_pos g2, if_pos (by split at g3 <;> omega)]
    · have g3 := fun z => g2 (f114.mpr z)
      rw [if_neg g2, if_neg (fun z => g3 (by split <;> omega))]
  · have g1 := fun z => g (f82.mpr z)
    rw [if_neg g, if_neg (fun z => g1 (by omega))]
theorem fgT (hL : L ≤ 120) (ht : ∀ j, j < L → t j ≤ 255 ∧ ch j = nI (t j) ∧ mt j = nI (t j)) {p0 : Int32} (h : p0 ≠ -1) (hq : q ≤ L) : fX4_figures rf (nI L) ac (nI q) ou mt N T O dy kp ik p0 2 1 60 = if fq L t 84 q = true then (if fq L t 116 (q + 1) = true then some (nI ((t q - 48) * 10 + (t (q + 1) - 48)), nI (q + 1 + 1)) else some (-1, nI (q + 1))) else some (-1, nI q) := by
  refine (fgB (lo := 1) (hi := 60) hL ht h (by omega) (by omega) hq).trans ?_
  by_cases g : fq L t 84 q = true
  · have g1 := f84.mp g
    rw [if_pos g, if_pos (by omega)]
    by_cases g2 : fq L t 116 (q + 1) = true
    · have g3 := f116.mp g2
      rw [if_pos g2, if_pos (by (repeat' split at g3) <;> omega)]
    · have g3 := fun z => g2 (f116.mpr z)
      rw [if_neg g2, if_neg (fun z => g3 (by (repeat' split) <;> omega))]
  · have g1 := fun z => g (f84.mpr z)
    rw [if_neg g, if_neg (fun z => g1 (by omega))]
theorem fgL (hL : L ≤ 120) (ht : ∀ j, j < L → t j ≤ 255 ∧ ch j = nI (t j) ∧ mt j = nI (t j)) {p0 : Int32} (h : p0 ≠ -1) (hq : q ≤ L) : fX4_figures rf (nI L) ac (nI q) ou mt N T O dy kp ik p0 1 1 9 = if fq L t 108 q = true then some (nI (t q - 48), nI (q + 1)) else some (-1, nI q) := by
  refine (fgA (lo := 1) (hi := 9) hL ht h (by omega) (by omega) hq).trans ?_
  by_cases g : fq L t 108 q = true
  · have g1 := f108.mp g
    rw [if_pos g, if_pos (by omega)]
  · have g1 := fun z => g (f108.mpr z)
    rw [if_neg g, if_neg (fun z => g1 (by omega))]
theorem fgC (hL : L ≤ 120) (ht : ∀ j, j < L → t j ≤ 255 ∧ ch j = nI (t j) ∧ mt j = nI (t j)) {p0 : Int32} (h : p0 ≠ -1) (hq : q ≤ L) : fX4_figures rf (nI L) ac (nI q) ou mt N T O dy kp ik p0 1 0 9 = if fq L t 99 q = true then some (nI (t q - 48), nI (q + 1)) else some (-1, nI q) := by
  refine (fgA (lo := 0) (hi := 9) hL ht h (by omega) (by omega) hq).trans ?_
  by_cases g : fq L t 99 q = true
  · have g1 := f99.mp g
    rw [if_pos g, if_pos (by omega)]
  · have g1 := fun z => g (f99.mpr z)
    rw [if_neg g, if_neg (fun z => g1 (by omega))]
theorem fgW (hL : L ≤ 120) (ht : ∀ j, j < L → t j ≤ 255 ∧ ch j = nI (t j) ∧ mt j = nI (t j)) {p0 : Int32} (h : p0 ≠ -1) (hq : q ≤ L) : fX4_figures rf (nI L) ac (nI q) ou mt N T O dy kp ik p0 1 0 2 = if fq L t 119 q = true then some (nI (t q - 48), nI (q + 1)) else some (-1, nI q) := by
  refine (fgA (lo := 0) (hi := 2) hL ht h (by omega) (by omega) hq).trans ?_
  by_cases g : fq L t 119 q = true
  · have g1 := f119.mp g
    rw [if_pos g, if_pos (by omega)]
  · have g1 := fun z => g (f119.mpr z)
    rw [if_neg g, if_neg (fun z => g1 (by omega))]
theorem nI_no {a : Nat} (h : a < 2147483648) : nI a ≠ -1 := fun e => by
  have := (m_eq (a := a) (b := 4294967295) (by omega) (by omega)).mp (e.trans (by decide))
  omega
-- the class's signs
theorem isDA (hL : L ≤ 120) (ht : ∀ j, j < L → t j ≤ 255 ∧ ch j = nI (t j) ∧ mt j = nI (t j)) (hq : q < L) : fX2_isDigitAt (nI L) ch (nI q) = some (nI (bN (decide (48 ≤ t q ∧ t q ≤ 57)))) := by
  have := ht q hq
  unfold fX2_isDigitAt
  rw [at_c hL ht hq, Option.bind_some]
  exact isDigZ (lo := 48) (hi := 57) (by omega) (by omega) (by omega)
theorem di_c (hL : L ≤ 120) (ht : ∀ j, j < L → t j ≤ 255 ∧ ch j = nI (t j) ∧ mt j = nI (t j)) (hq : q < L) (h : 48 ≤ t q) : fX2_digit (nI L) ch (nI q) = some (nI (t q - 48)) := by
  unfold fX2_digit
  rw [at_c hL ht hq, Option.bind_some, show (48 : Int32) = nI 48 from rfl, m_sub h]
theorem tw_c (hL : L ≤ 120) (ht : ∀ j, j < L → t j ≤ 255 ∧ ch j = nI (t j) ∧ mt j = nI (t j)) (hq : q + 1 < L) (h : 48 ≤ t q) (h2 : 48 ≤ t (q + 1)) : fX2_twoDigits (nI L) ch (nI q) = some (nI ((t q - 48) * 10 + (t (q + 1) - 48))) := by
  unfold fX2_twoDigits
  rw [di_c hL ht (by omega) h, Option.bind_some, show (1 : Int32) = nI 1 from rfl, m_add, di_c hL ht hq h2, Option.bind_some, show (10 : Int32) = nI 10 from rfl, m_mul, m_add, Nat.mul_comm 10]
theorem ld_skip (hL : L ≤ 120) (ht : ∀ j, j < L → t j ≤ 255 ∧ ch j = nI (t j) ∧ mt j = nI (t j)) {s : Nat} (h : fq L t s q = true) (hd : 48 ≤ t q ∧ t q ≤ 57) (f : Nat) {v : Int32} {C : Nat → Int32} : fX3_load_40 la (nI L) ch G T B (f + 1) v (nI q) cn C sv = fX3_load_40 la (nI L) ch G T B f v (nI (q + 1)) cn C sv := by
  have hq := (fq_iff.mp h).1
  rw [fX3_load_40]
  show (if nI L ≤ nI q then _ else _) = _
  rw [if_neg (show ¬ nI L ≤ nI q from fun e => by have := (m_le (by omega) (by omega)).mp e; omega), isDA hL ht hq, Option.bind_some, decide_eq_true hd, if_neg (show ¬ nI (bN true) = 0 from by decide)]
  show fX3_load_40 la (nI L) ch G T B f v (nI q + nI 1) cn C sv = _
  rw [m_add]
theorem ld_cmd (hL : L ≤ 120) (ht : ∀ j, j < L → t j ≤ 255 ∧ ch j = nI (t j) ∧ mt j = nI (t j)) (hq : q < L) (hd : 57 < t q) (f : Nat) {v : Nat} {C C' : Nat → Int32} {b : Bool} (h : fX3_doesCommand la cn (nI L) ch C G sv T B (nI q) = some (nI (bN b), C')) : fX3_load_40 la (nI L) ch G T B (f + 1) (nI v) (nI q) cn C sv = fX3_load_40 la (nI L) ch G T B f (nI (v + bN (!b))) (nI (q + 1)) cn C' sv := by
  rw [fX3_load_40]
  show (if nI L ≤ nI q then _ else _) = _
  rw [if_neg (show ¬ nI L ≤ nI q from fun e => by have := (m_le (by omega) (by omega)).mp e; omega), isDA hL ht hq, Option.bind_some, decide_eq_false (show ¬ (48 ≤ t q ∧ t q ≤ 57) by omega), if_pos (show nI (bN false) = 0 from rfl), h, Option.bind_some]
  dsimp only
  cases b
  · rw [if_pos (show nI (bN false) = 0 from rfl)]
    show fX3_load_40 la (nI L) ch G T B f (nI v + nI 1) (nI q + nI 1) cn C' sv = _
    rw [m_add, m_add]
    rfl
  · rw [if_neg (show ¬ nI (bN true) = 0 from by decide)]
    show fX3_load_40 la (nI L) ch G T B f (nI v) (nI q + nI 1) cn C' sv = _
    rw [m_add]
    rfl
theorem ld_end (f : Nat) {v : Int32} {C : Nat → Int32} (hL : L ≤ 120) : fX3_load_40 la (nI L) ch G T B (f + 1) v (nI L) cn C sv = some (.inr (v, cn, C, sv)) := by
  rw [fX3_load_40]
  show (if nI L ≤ nI L then _ else _) = _
  rw [if_pos (show nI L ≤ nI L from (m_le (by omega) (by omega)).mpr (Nat.le_refl _))]
end RD
