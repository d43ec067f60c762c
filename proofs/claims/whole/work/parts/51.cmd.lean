def STEP (L : Nat) (t : Nat → Nat) (ch mt : Nat → Int32) (la cn : Int32) (G sv T B : Nat → Int32) (rf ac : Int32) (N O dy kp ik : Nat → Int32) (p o : Nat) (σ : Nat → Nat) : Prop :=
  (∃ q, q ≤ L ∧ fX4_readCommand rf (nI L) ac (nI p) (nI o) mt N (E σ) O dy kp ik = some (0, nI q, nI o, E σ) ∧ ∀ f s l, s < 6 → x_shl.getD s 0 = l → l ≤ 5 → fX2_firstFault_19 (nI L) ch (f + 1 + 1 + 1 + 1 + 1 + 1) s (nI l) (nI p) = some (nI q)) ∨
  (∃ k s1 l1 σ1 x, 1 ≤ k ∧ p + 1 + k ≤ L ∧ s1 < 6 ∧ x_shl.getD s1 0 = l1 ∧ l1 ≤ 5 ∧ x ≤ 1 ∧ WF σ1 ∧ fX4_readCommand rf (nI L) ac (nI p) (nI o) mt N (E σ) O dy kp ik = some (1, nI (p + 1 + k), nI (o + x), E σ1) ∧ (∀ f s l, s < 6 → x_shl.getD s 0 = l → l ≤ 5 → fX2_firstFault_19 (nI L) ch (f + 1 + k) s (nI l) (nI p) = fX2_firstFault_19 (nI L) ch f s1 (nI l1) (nI (p + 1 + k))) ∧ 57 < t p ∧ (∀ j, j < k → ∃ s, fq L t s (p + 1 + j) = true ∧ 48 ≤ t (p + 1 + j) ∧ t (p + 1 + j) ≤ 57) ∧ ∀ κ m, OKS m κ σ → ∃ κ1, OKS (m + 60) κ1 σ1 ∧ fX3_doesCommand la cn (nI L) ch (E κ) G sv T B (nI p) = some (nI (bN (x == 0)), E κ1))
section CMDT
variable {t : Nat → Nat} {L q p c n lo hi o k : Nat} {ch mt : Nat → Int32} {σ κ : Nat → Nat} {la cn us : Int32} {G sv T B : Nat → Int32} {rf ac ou sp : Int32} {N O dy kp ik : Nat → Int32}
theorem ff0 : ¬ (false = true) := by decide
theorem s1p (p : Nat) : nI p + 1 = nI (p + 1) := nI_add p 1
theorem done0 {zs ou : Int32} : fX4_done rf zs ac sp ou mt N T O dy kp ik 0 = some (1, ou + 1) := rfl

theorem ff_h (hL : L ≤ 120) (ht : ∀ j, j < L → t j ≤ 255 ∧ ch j = nI (t j) ∧ mt j = nI (t j)) (hp : p < L) (hc : t p = 104) {s l : Nat} (hs : s < 6) (hl : x_shl.getD s 0 = l) (hl5 : l ≤ 5) (f : Nat) : fX2_firstFault_19 (nI L) ch (f + 1 + 1 + 1 + 1 + 1 + 1) s (nI l) (nI p) = (if fq L t 82 (p + 1) = true then (if fq L t 114 (p + 1 + 1) = true then (if fq L t 82 (p + 1 + 1 + 1) = true then (if fq L t 114 (p + 1 + 1 + 1 + 1) = true then (if fq L t 108 (p + 1 + 1 + 1 + 1 + 1) = true then fX2_firstFault_19 (nI L) ch f 1 (nI 5) (nI (p + 1 + 1 + 1 + 1 + 1 + 1)) else some (nI (p + 1 + 1 + 1 + 1 + 1))) else some (nI (p + 1 + 1 + 1 + 1))) else some (nI (p + 1 + 1 + 1))) else some (nI (p + 1 + 1))) else some (nI (p + 1))) := by
  rw [ff_bd hL ht hs hl hl5 (by omega), if_pos hp, hc, if_neg (show ¬ shp 104 = 0 from by decide), show shp 104 = 1 from rfl]
  by_cases h1 : fq L t 82 (p + 1) = false
  · rw [ff_st (s := 1) (l := 5) (v := 0) (sc := 82) hL ht (by omega) rfl (by omega) (by omega) (by decide) (by omega) (by omega) (by omega), h1, if_neg ff0, if_neg ff0]
  have g1 : fq L t 82 (p + 1) = true := by simpa using h1
  rw [ff_st (s := 1) (l := 5) (v := 0) (sc := 82) hL ht (by omega) rfl (by omega) (by omega) (by decide) (by omega) (by omega) (by omega), if_pos g1, if_pos g1]
  by_cases h2 : fq L t 114 (p + 1 + 1) = false
  · rw [ff_st (s := 1) (l := 5) (v := 1) (sc := 114) hL ht (by omega) rfl (by omega) (by omega) (by decide) (by omega) (by have := (fq_iff.mp g1).1; omega) (by omega), h2, if_neg ff0, if_neg ff0]
  have g2 : fq L t 114 (p + 1 + 1) = true := by simpa using h2
  rw [ff_st (s := 1) (l := 5) (v := 1) (sc := 114) hL ht (by omega) rfl (by omega) (by omega) (by decide) (by omega) (by have := (fq_iff.mp g1).1; omega) (by omega), if_pos g2, if_pos g2]
  by_cases h3 : fq L t 82 (p + 1 + 1 + 1) = false
  · rw [ff_st (s := 1) (l := 5) (v := 2) (sc := 82) hL ht (by omega) rfl (by omega) (by omega) (by decide) (by omega) (by have := (fq_iff.mp g2).1; omega) (by omega), h3, if_neg ff0, if_neg ff0]
  have g3 : fq L t 82 (p + 1 + 1 + 1) = true := by simpa using h3
  rw [ff_st (s := 1) (l := 5) (v := 2) (sc := 82) hL ht (by omega) rfl (by omega) (by omega) (by decide) (by omega) (by have := (fq_iff.mp g2).1; omega) (by omega), if_pos g3, if_pos g3]
  by_cases h4 : fq L t 114 (p + 1 + 1 + 1 + 1) = false
  · rw [ff_st (s := 1) (l := 5) (v := 3) (sc := 114) hL ht (by omega) rfl (by omega) (by omega) (by decide) (by omega) (by have := (fq_iff.mp g3).1; omega) (by omega), h4, if_neg ff0, if_neg ff0]
  have g4 : fq L t 114 (p + 1 + 1 + 1 + 1) = true := by simpa using h4
  rw [ff_st (s := 1) (l := 5) (v := 3) (sc := 114) hL ht (by omega) rfl (by omega) (by omega) (by decide) (by omega) (by have := (fq_iff.mp g3).1; omega) (by omega), if_pos g4, if_pos g4]
  by_cases h5 : fq L t 108 (p + 1 + 1 + 1 + 1 + 1) = false
  · rw [ff_st (s := 1) (l := 5) (v := 4) (sc := 108) hL ht (by omega) rfl (by omega) (by omega) (by decide) (by omega) (by have := (fq_iff.mp g4).1; omega) (by omega), h5, if_neg ff0]
  have g5 : fq L t 108 (p + 1 + 1 + 1 + 1 + 1) = true := by simpa using h5
  rw [ff_st (s := 1) (l := 5) (v := 4) (sc := 108) hL ht (by omega) rfl (by omega) (by omega) (by decide) (by omega) (by have := (fq_iff.mp g4).1; omega) (by omega), if_pos g5]
theorem ff_p (hL : L ≤ 120) (ht : ∀ j, j < L → t j ≤ 255 ∧ ch j = nI (t j) ∧ mt j = nI (t j)) (hp : p < L) (hc : t p = 112) {s l : Nat} (hs : s < 6) (hl : x_shl.getD s 0 = l) (hl5 : l ≤ 5) (f : Nat) : fX2_firstFault_19 (nI L) ch (f + 1 + 1) s (nI l) (nI p) = (if fq L t 99 (p + 1) = true then fX2_firstFault_19 (nI L) ch f 5 (nI 1) (nI (p + 1 + 1)) else some (nI (p + 1))) := by
  rw [ff_bd hL ht hs hl hl5 (by omega), if_pos hp, hc, if_neg (show ¬ shp 112 = 0 from by decide), show shp 112 = 5 from rfl]
  by_cases h1 : fq L t 99 (p + 1) = false
  · rw [ff_st (s := 5) (l := 1) (v := 0) (sc := 99) hL ht (by omega) rfl (by omega) (by omega) (by decide) (by omega) (by omega) (by omega), h1, if_neg ff0]
  have g1 : fq L t 99 (p + 1) = true := by simpa using h1
  rw [ff_st (s := 5) (l := 1) (v := 0) (sc := 99) hL ht (by omega) rfl (by omega) (by omega) (by decide) (by omega) (by omega) (by omega), if_pos g1]
theorem ff_r (hL : L ≤ 120) (ht : ∀ j, j < L → t j ≤ 255 ∧ ch j = nI (t j) ∧ mt j = nI (t j)) (hp : p < L) (hc : t p = 114) {s l : Nat} (hs : s < 6) (hl : x_shl.getD s 0 = l) (hl5 : l ≤ 5) (f : Nat) : fX2_firstFault_19 (nI L) ch (f + 1 + 1) s (nI l) (nI p) = (if fq L t 119 (p + 1) = true then fX2_firstFault_19 (nI L) ch f 4 (nI 1) (nI (p + 1 + 1)) else some (nI (p + 1))) := by
  rw [ff_bd hL ht hs hl hl5 (by omega), if_pos hp, hc, if_neg (show ¬ shp 114 = 0 from by decide), show shp 114 = 4 from rfl]
  by_cases h1 : fq L t 119 (p + 1) = false
  · rw [ff_st (s := 4) (l := 1) (v := 0) (sc := 119) hL ht (by omega) rfl (by omega) (by omega) (by decide) (by omega) (by omega) (by omega), h1, if_neg ff0]
  have g1 : fq L t 119 (p + 1) = true := by simpa using h1
  rw [ff_st (s := 4) (l := 1) (v := 0) (sc := 119) hL ht (by omega) rfl (by omega) (by omega) (by decide) (by omega) (by omega) (by omega), if_pos g1]
theorem ff_t (hL : L ≤ 120) (ht : ∀ j, j < L → t j ≤ 255 ∧ ch j = nI (t j) ∧ mt j = nI (t j)) (hp : p < L) (hc : t p = 116) {s l : Nat} (hs : s < 6) (hl : x_shl.getD s 0 = l) (hl5 : l ≤ 5) (f : Nat) : fX2_firstFault_19 (nI L) ch (f + 1 + 1 + 1) s (nI l) (nI p) = (if fq L t 84 (p + 1) = true then (if fq L t 116 (p + 1 + 1) = true then fX2_firstFault_19 (nI L) ch f 2 (nI 2) (nI (p + 1 + 1 + 1)) else some (nI (p + 1 + 1))) else some (nI (p + 1))) := by
  rw [ff_bd hL ht hs hl hl5 (by omega), if_pos hp, hc, if_neg (show ¬ shp 116 = 0 from by decide), show shp 116 = 2 from rfl]
  by_cases h1 : fq L t 84 (p + 1) = false
  · rw [ff_st (s := 2) (l := 2) (v := 0) (sc := 84) hL ht (by omega) rfl (by omega) (by omega) (by decide) (by omega) (by omega) (by omega), h1, if_neg ff0, if_neg ff0]
  have g1 : fq L t 84 (p + 1) = true := by simpa using h1
  rw [ff_st (s := 2) (l := 2) (v := 0) (sc := 84) hL ht (by omega) rfl (by omega) (by omega) (by decide) (by omega) (by omega) (by omega), if_pos g1, if_pos g1]
  by_cases h2 : fq L t 116 (p + 1 + 1) = false
  · rw [ff_st (s := 2) (l := 2) (v := 1) (sc := 116) hL ht (by omega) rfl (by omega) (by omega) (by decide) (by omega) (by have := (fq_iff.mp g1).1; omega) (by omega), h2, if_neg ff0]
  have g2 : fq L t 116 (p + 1 + 1) = true := by simpa using h2
  rw [ff_st (s := 2) (l := 2) (v := 1) (sc := 116) hL ht (by omega) rfl (by omega) (by omega) (by decide) (by omega) (by have := (fq_iff.mp g1).1; omega) (by omega), if_pos g2]
theorem ff_x (hL : L ≤ 120) (ht : ∀ j, j < L → t j ≤ 255 ∧ ch j = nI (t j) ∧ mt j = nI (t j)) (hp : p < L) (hc : t p = 120) {s l : Nat} (hs : s < 6) (hl : x_shl.getD s 0 = l) (hl5 : l ≤ 5) (f : Nat) : fX2_firstFault_19 (nI L) ch (f + 1 + 1 + 1) s (nI l) (nI p) = (if fq L t 82 (p + 1) = true then (if fq L t 114 (p + 1 + 1) = true then fX2_firstFault_19 (nI L) ch f 3 (nI 2) (nI (p + 1 + 1 + 1)) else some (nI (p + 1 + 1))) else some (nI (p + 1))) := by
  rw [ff_bd hL ht hs hl hl5 (by omega), if_pos hp, hc, if_neg (show ¬ shp 120 = 0 from by decide), show shp 120 = 3 from rfl]
  by_cases h1 : fq L t 82 (p + 1) = false
  · rw [ff_st (s := 3) (l := 2) (v := 0) (sc := 82) hL ht (by omega) rfl (by omega) (by omega) (by decide) (by omega) (by omega) (by omega), h1, if_neg ff0, if_neg ff0]
  have g1 : fq L t 82 (p + 1) = true := by simpa using h1
  rw [ff_st (s := 3) (l := 2) (v := 0) (sc := 82) hL ht (by omega) rfl (by omega) (by omega) (by decide) (by omega) (by omega) (by omega), if_pos g1, if_pos g1]
  by_cases h2 : fq L t 114 (p + 1 + 1) = false
  · rw [ff_st (s := 3) (l := 2) (v := 1) (sc := 114) hL ht (by omega) rfl (by omega) (by omega) (by decide) (by omega) (by have := (fq_iff.mp g1).1; omega) (by omega), h2, if_neg ff0]
  have g2 : fq L t 114 (p + 1 + 1) = true := by simpa using h2
  rw [ff_st (s := 3) (l := 2) (v := 1) (sc := 114) hL ht (by omega) rfl (by omega) (by omega) (by decide) (by omega) (by have := (fq_iff.mp g1).1; omega) (by omega), if_pos g2]
theorem dn141_0 {zs ou : Int32} : fX4_readCommand_141 rf zs ac mt N O dy kp ik 0 sp ou T = some (1, sp, ou + 1, T) := rfl
theorem dn141_1 {zs ou : Int32} : fX4_readCommand_141 rf zs ac mt N O dy kp ik 1 sp ou T = some (1, sp, ou + 0, T) := rfl
theorem dn322_0 {zs ou : Int32} : fX4_readCommand_322 rf zs ac mt N O dy kp ik 0 sp ou T = some (1, sp, ou + 1, T) := rfl
theorem dn322_1 {zs ou : Int32} : fX4_readCommand_322 rf zs ac mt N O dy kp ik 1 sp ou T = some (1, sp, ou + 0, T) := rfl
theorem dn273_0 {zs ou : Int32} : fX4_readCommand_273 rf zs ac mt N O dy kp ik 0 sp ou T = some (1, sp, ou + 1, T) := rfl
theorem dn273_1 {zs ou : Int32} : fX4_readCommand_273 rf zs ac mt N O dy kp ik 1 sp ou T = some (1, sp, ou + 0, T) := rfl
theorem dn182_0 {zs ou : Int32} : fX4_readCommand_182 rf zs ac mt N O dy kp ik 0 sp ou T = some (1, sp, ou + 1, T) := rfl
theorem dn182_1 {zs ou : Int32} : fX4_readCommand_182 rf zs ac mt N O dy kp ik 1 sp ou T = some (1, sp, ou + 0, T) := rfl
theorem dn233_0 {zs ou : Int32} : fX4_readCommand_233 rf zs ac mt N O dy kp ik 0 sp ou T = some (1, sp, ou + 1, T) := rfl
theorem dn233_1 {zs ou : Int32} : fX4_readCommand_233 rf zs ac mt N O dy kp ik 1 sp ou T = some (1, sp, ou + 0, T) := rfl
theorem shS_pos {v : Nat} : ∀ n i, i ≤ v → v < i + n → σ (4 + v) = 1 → 1 ≤ shS σ n i := by
  intro n
  induction n with
  | zero => intro i h1 h2; omega
  | succ n ih =>
    intro i h1 h2 h
    rw [shS]
    by_cases g : i = v
    · rw [g, h]; omega
    · have := ih (i + 1) (by omega) (by omega) h
      omega
theorem shS_le : ∀ n i, (∀ k, k < i + n → σ (4 + k) ≤ 1) → shS σ n i ≤ n := by
  intro n
  induction n with
  | zero => intro i h; rw [shS]; exact Nat.le_refl _
  | succ n ih =>
    intro i h
    have h1 := h i (by omega)
    have h2 := ih (i + 1) (fun k hk => h k (by omega))
    rw [shS]
    omega
theorem st_h (hL : L ≤ 120) (ht : ∀ j, j < L → t j ≤ 255 ∧ ch j = nI (t j) ∧ mt j = nI (t j)) (hp : p < L) (hW : WF σ) (hc : t p = 104) : STEP L t ch mt la cn G sv T B rf ac N O dy kp ik p o σ := by
  have tp := ht p hp
  by_cases h1 : fq L t 82 (p + 1) = false
  · refine Or.inl ⟨p + 1, hp, ?_, fun f s l hs hl hl5 => ?_⟩
    · unfold fX4_readCommand; rw [m_gd (by omega) (by omega), m_cl (by omega), tp.2.2, hc, if_pos (show nI 104 = 104 from rfl), s1p]
      rw [fgR hL ht (by decide) (by omega), h1, if_neg ff0, Option.bind_some]
      dsimp only
      rw [fgN, Option.bind_some]
      dsimp only
      rw [fgN, Option.bind_some]
      dsimp only
      rw [if_pos rfl]
    · refine (ff_h hL ht hp hc hs hl hl5 (f)).trans ?_
      rw [h1, if_neg ff0]
  have g1 : fq L t 82 (p + 1) = true := by simpa using h1
  have k1 : p + 1 < L ∧ 48 ≤ t (p + 1) ∧ t (p + 1) ≤ 51 := f82.mp g1
  by_cases h2 : fq L t 114 (p + 1 + 1) = false
  · refine Or.inl ⟨p + 1 + 1, (fq_iff.mp g1).1, ?_, fun f s l hs hl hl5 => ?_⟩
    · unfold fX4_readCommand; rw [m_gd (by omega) (by omega), m_cl (by omega), tp.2.2, hc, if_pos (show nI 104 = 104 from rfl), s1p]
      rw [fgR hL ht (by decide) (by omega), if_pos g1, h2, if_neg ff0, Option.bind_some]
      dsimp only
      rw [fgN, Option.bind_some]
      dsimp only
      rw [fgN, Option.bind_some]
      dsimp only
      rw [if_pos rfl]
    · refine (ff_h hL ht hp hc hs hl hl5 (f)).trans ?_
      rw [if_pos g1, h2, if_neg ff0]
  have g2 : fq L t 114 (p + 1 + 1) = true := by simpa using h2
  have k2 : p + 1 + 1 < L ∧ 48 ≤ t (p + 1 + 1) ∧ t (p + 1 + 1) ≤ if t (p + 1) = 51 then 53 else 57 := f114.mp g2
  have b2 : 48 ≤ t (p + 1 + 1) ∧ t (p + 1 + 1) ≤ 57 ∧ (t (p + 1) - 48) * 10 + (t (p + 1 + 1) - 48) < 36 := by split at k2 <;> omega
  by_cases h3 : fq L t 82 (p + 1 + 1 + 1) = false
  · refine Or.inl ⟨p + 1 + 1 + 1, (fq_iff.mp g2).1, ?_, fun f s l hs hl hl5 => ?_⟩
    · unfold fX4_readCommand; rw [m_gd (by omega) (by omega), m_cl (by omega), tp.2.2, hc, if_pos (show nI 104 = 104 from rfl), s1p]
      rw [fgR hL ht (by decide) (by omega), if_pos g1, if_pos g2, Option.bind_some]
      dsimp only
      rw [fgR hL ht (nI_no (by omega)) (by omega), h3, if_neg ff0, Option.bind_some]
      dsimp only
      rw [fgN, Option.bind_some]
      dsimp only
      rw [if_pos rfl]
    · refine (ff_h hL ht hp hc hs hl hl5 (f)).trans ?_
      rw [if_pos g1, if_pos g2, h3, if_neg ff0]
  have g3 : fq L t 82 (p + 1 + 1 + 1) = true := by simpa using h3
  have k3 : p + 1 + 1 + 1 < L ∧ 48 ≤ t (p + 1 + 1 + 1) ∧ t (p + 1 + 1 + 1) ≤ 51 := f82.mp g3
  by_cases h4 : fq L t 114 (p + 1 + 1 + 1 + 1) = false
  · refine Or.inl ⟨p + 1 + 1 + 1 + 1, (fq_iff.mp g3).1, ?_, fun f s l hs hl hl5 => ?_⟩
    · unfold fX4_readCommand; rw [m_gd (by omega) (by omega), m_cl (by omega), tp.2.2, hc, if_pos (show nI 104 = 104 from rfl), s1p]
      rw [fgR hL ht (by decide) (by omega), if_pos g1, if_pos g2, Option.bind_some]
      dsimp only
      rw [fgR hL ht (nI_no (by omega)) (by omega), if_pos g3, h4, if_neg ff0, Option.bind_some]
      dsimp only
      rw [fgN, Option.bind_some]
      dsimp only
      rw [if_pos rfl]
    · refine (ff_h hL ht hp hc hs hl hl5 (f)).trans ?_
      rw [if_pos g1, if_pos g2, if_pos g3, h4, if_neg ff0]
  have g4 : fq L t 114 (p + 1 + 1 + 1 + 1) = true := by simpa using h4
  have k4 : p + 1 + 1 + 1 + 1 < L ∧ 48 ≤ t (p + 1 + 1 + 1 + 1) ∧ t (p + 1 + 1 + 1 + 1) ≤ if t (p + 1 + 1 + 1) = 51 then 53 else 57 := f114.mp g4
  have b4 : 48 ≤ t (p + 1 + 1 + 1 + 1) ∧ t (p + 1 + 1 + 1 + 1) ≤ 57 ∧ (t (p + 1 + 1 + 1) - 48) * 10 + (t (p + 1 + 1 + 1 + 1) - 48) < 36 := by split at k4 <;> omega
  by_cases h5 : fq L t 108 (p + 1 + 1 + 1 + 1 + 1) = false
  · refine Or.inl ⟨p + 1 + 1 + 1 + 1 + 1, (fq_iff.mp g4).1, ?_, fun f s l hs hl hl5 => ?_⟩
    · unfold fX4_readCommand; rw [m_gd (by omega) (by omega), m_cl (by omega), tp.2.2, hc, if_pos (show nI 104 = 104 from rfl), s1p]
      rw [fgR hL ht (by decide) (by omega), if_pos g1, if_pos g2, Option.bind_some]
      dsimp only
      rw [fgR hL ht (nI_no (by omega)) (by omega), if_pos g3, if_pos g4, Option.bind_some]
      dsimp only
      rw [fgL hL ht (nI_no (by omega)) (by omega), h5, if_neg ff0, Option.bind_some]
      dsimp only
      rw [if_pos rfl]
    · refine (ff_h hL ht hp hc hs hl hl5 (f)).trans ?_
      rw [if_pos g1, if_pos g2, if_pos g3, if_pos g4, h5, if_neg ff0]
  have g5 : fq L t 108 (p + 1 + 1 + 1 + 1 + 1) = true := by simpa using h5
  have k5 : p + 1 + 1 + 1 + 1 + 1 < L ∧ 49 ≤ t (p + 1 + 1 + 1 + 1 + 1) ∧ t (p + 1 + 1 + 1 + 1 + 1) ≤ 57 := f108.mp g5
  have eF : ∀ f s l, s < 6 → x_shl.getD s 0 = l → l ≤ 5 → fX2_firstFault_19 (nI L) ch (f + 1 + 5) s (nI l) (nI p) = fX2_firstFault_19 (nI L) ch f 1 (nI 5) (nI (p + 1 + 5)) := fun f s l hs hl hl5 => by
    refine (ff_h hL ht hp hc hs hl hl5 f).trans ?_
    rw [if_pos g1, if_pos g2, if_pos g3, if_pos g4, if_pos g5]
  have eD : ∀ j, j < 5 → ∃ s, fq L t s (p + 1 + j) = true ∧ 48 ≤ t (p + 1 + j) ∧ t (p + 1 + j) ≤ 57 := by
    intro j hj
    have : j = 0 ∨ j = 1 ∨ j = 2 ∨ j = 3 ∨ j = 4 := by omega
    rcases this with rfl | rfl | rfl | rfl | rfl
    · exact ⟨82, g1, (by omega : 48 ≤ t (p + 1)), (by omega : t (p + 1) ≤ 57)⟩
    · exact ⟨114, g2, (by omega : 48 ≤ t (p + 1 + 1)), (by omega : t (p + 1 + 1) ≤ 57)⟩
    · exact ⟨82, g3, (by omega : 48 ≤ t (p + 1 + 1 + 1)), (by omega : t (p + 1 + 1 + 1) ≤ 57)⟩
    · exact ⟨114, g4, (by omega : 48 ≤ t (p + 1 + 1 + 1 + 1)), (by omega : t (p + 1 + 1 + 1 + 1) ≤ 57)⟩
    · exact ⟨108, g5, (by omega : 48 ≤ t (p + 1 + 1 + 1 + 1 + 1)), (by omega : t (p + 1 + 1 + 1 + 1 + 1) ≤ 57)⟩
  have eR : ∀ z, fX4_readCommand rf (nI L) ac (nI p) (nI o) mt N (E σ) O dy kp ik = z ↔ fX4_readCommand rf (nI L) ac (nI p) (nI o) mt N (E σ) O dy kp ik = z := fun z => Iff.rfl
  by_cases h0 : σ 0 < 10
  · have hW2 : WF (hatN σ ((t (p + 1) - 48) * 10 + (t (p + 1 + 1) - 48)) ((t (p + 1 + 1 + 1) - 48) * 10 + (t (p + 1 + 1 + 1 + 1) - 48)) (t (p + 1 + 1 + 1 + 1 + 1) - 48)) := hat_WF hW h0 (by omega) (by omega) (by omega) (by omega)
    refine Or.inr ⟨5, 1, 5, hatN σ ((t (p + 1) - 48) * 10 + (t (p + 1 + 1) - 48)) ((t (p + 1 + 1 + 1) - 48) * 10 + (t (p + 1 + 1 + 1 + 1) - 48)) (t (p + 1 + 1 + 1 + 1 + 1) - 48), 0, by omega, by omega, by omega, rfl, by omega, by omega, hW2, ?_, eF, by omega, eD, fun κ m hO => ?_⟩
    · unfold fX4_readCommand; rw [m_gd (by omega) (by omega), m_cl (by omega), tp.2.2, hc, if_pos (show nI 104 = 104 from rfl), s1p]
      rw [fgR hL ht (by decide) (by omega), if_pos g1, if_pos g2, Option.bind_some]
      dsimp only
      rw [fgR hL ht (nI_no (by omega)) (by omega), if_pos g3, if_pos g4, Option.bind_some]
      dsimp only
      rw [fgL hL ht (nI_no (by omega)) (by omega), if_pos g5, Option.bind_some]
      dsimp only
      rw [if_neg (nI_no (by omega)), canHatch_t h0 (by omega) (by omega) (by omega) (by omega), Option.bind_some, if_neg (show ¬ nI 1 = 0 from by decide), hatchOn_E h0, Option.bind_some]
      dsimp only
      rw [if_neg (nI_pos (by omega)), dn141_1, show nI o + 0 = nI (o + 0) from nI_add o 0]
    · obtain ⟨t1, t2⟩ := add_t hO.1 hW h0 (c := ((t (p + 1) - 48) * 10 + (t (p + 1 + 1) - 48))) (f := ((t (p + 1 + 1 + 1) - 48) * 10 + (t (p + 1 + 1 + 1 + 1) - 48))) (n := (t (p + 1 + 1 + 1 + 1 + 1) - 48)) (by omega) (by omega) (by omega) (by omega)
      refine ⟨_, ⟨t2, hW2, hat_GT hO.2.2.1 _ _ _, by rw [hat_lo (x := 1) _ _ _ (by omega) (by omega)]; have := hO.2.2.2; omega⟩, ?_⟩
      unfold fX3_doesCommand
      rw [at_c hL ht hp, Option.bind_some, hc, if_pos (show nI 104 = 104 from rfl), s1p, show nI p + 3 = nI (p + 1 + 1 + 1) from nI_add p 3, show nI p + 5 = nI (p + 1 + 1 + 1 + 1 + 1) from nI_add p 5, tw_c hL ht (by omega) (by omega) (by omega), tw_c hL ht (by omega) (by omega) (by omega), di_c hL ht (by omega) (by omega), Option.bind_some, Option.bind_some, Option.bind_some]
      rw [t1]
      rfl
  · have hW2 := hW
    refine Or.inr ⟨5, 1, 5, σ, 1, by omega, by omega, by omega, rfl, by omega, by omega, hW, ?_, eF, by omega, eD, fun κ m hO => ?_⟩
    · unfold fX4_readCommand; rw [m_gd (by omega) (by omega), m_cl (by omega), tp.2.2, hc, if_pos (show nI 104 = 104 from rfl), s1p]
      rw [fgR hL ht (by decide) (by omega), if_pos g1, if_pos g2, Option.bind_some]
      dsimp only
      rw [fgR hL ht (nI_no (by omega)) (by omega), if_pos g3, if_pos g4, Option.bind_some]
      dsimp only
      rw [fgL hL ht (nI_no (by omega)) (by omega), if_pos g5, Option.bind_some]
      dsimp only
      rw [if_neg (nI_no (by omega)), canHatch_f hW.1 (fun _ _ _ _ _ _ _ _ _ _ => by omega), Option.bind_some, if_pos (show nI 0 = 0 from rfl)]
      exact dn141_0.trans (by rw [show nI o + 1 = nI (o + 1) from nI_add o 1])
    · refine ⟨κ, hO.mono (by omega), ?_⟩
      unfold fX3_doesCommand
      rw [at_c hL ht hp, Option.bind_some, hc, if_pos (show nI 104 = 104 from rfl), s1p, show nI p + 3 = nI (p + 1 + 1 + 1) from nI_add p 3, show nI p + 5 = nI (p + 1 + 1 + 1 + 1 + 1) from nI_add p 5, tw_c hL ht (by omega) (by omega) (by omega), tw_c hL ht (by omega) (by omega) (by omega), di_c hL ht (by omega) (by omega), Option.bind_some, Option.bind_some, Option.bind_some]
      rw [add_f hO.1 hW (fun _ _ _ _ _ _ _ _ _ _ => by omega)]
      rfl
theorem st_p (hL : L ≤ 120) (ht : ∀ j, j < L → t j ≤ 255 ∧ ch j = nI (t j) ∧ mt j = nI (t j)) (hp : p < L) (hW : WF σ) (hc : t p = 112) : STEP L t ch mt la cn G sv T B rf ac N O dy kp ik p o σ := by
  have tp := ht p hp
  by_cases h1 : fq L t 99 (p + 1) = false
  · refine Or.inl ⟨p + 1, hp, ?_, fun f s l hs hl hl5 => ?_⟩
    · unfold fX4_readCommand; rw [m_gd (by omega) (by omega), m_cl (by omega), tp.2.2, hc, if_neg (show ¬ nI 112 = 104 from by decide), if_pos (show nI 112 = 112 from rfl), s1p]
      rw [fgC hL ht (by decide) (by omega), h1, if_neg ff0, Option.bind_some]
      dsimp only
      rw [if_pos rfl]
    · refine (ff_p hL ht hp hc hs hl hl5 (f + 1 + 1 + 1 + 1)).trans ?_
      rw [h1, if_neg ff0]
  have g1 : fq L t 99 (p + 1) = true := by simpa using h1
  have k1 : p + 1 < L ∧ 48 ≤ t (p + 1) ∧ t (p + 1) ≤ 57 := f99.mp g1
  have eF : ∀ f s l, s < 6 → x_shl.getD s 0 = l → l ≤ 5 → fX2_firstFault_19 (nI L) ch (f + 1 + 1) s (nI l) (nI p) = fX2_firstFault_19 (nI L) ch f 5 (nI 1) (nI (p + 1 + 1)) := fun f s l hs hl hl5 => by
    refine (ff_p hL ht hp hc hs hl hl5 f).trans ?_
    rw [if_pos g1]
  have eD : ∀ j, j < 1 → ∃ s, fq L t s (p + 1 + j) = true ∧ 48 ≤ t (p + 1 + j) ∧ t (p + 1 + j) ≤ 57 := by
    intro j hj
    have : j = 0 := by omega
    subst this
    · exact ⟨99, g1, (by omega : 48 ≤ t (p + 1)), (by omega : t (p + 1) ≤ 57)⟩
  have eR : ∀ z, fX4_readCommand rf (nI L) ac (nI p) (nI o) mt N (E σ) O dy kp ik = z ↔ fX4_readCommand rf (nI L) ac (nI p) (nI o) mt N (E σ) O dy kp ik = z := fun z => Iff.rfl
  by_cases hu : uw σ (t (p + 1) - 48) = true
  · have hlt := uw_lt hu
    refine Or.inr ⟨1, 5, 1, pulN σ (t (p + 1) - 48), 0, by omega, by omega, by omega, rfl, by omega, by omega, pull_WF hW hlt.1, ?_, eF, by omega, eD, fun κ m hO => ?_⟩
    · unfold fX4_readCommand; rw [m_gd (by omega) (by omega), m_cl (by omega), tp.2.2, hc, if_neg (show ¬ nI 112 = 104 from by decide), if_pos (show nI 112 = 112 from rfl), s1p]
      rw [fgC hL ht (by decide) (by omega), if_pos g1, Option.bind_some]
      dsimp only
      rw [if_neg (nI_no (by omega)), canPull_E hW hlt.1, Option.bind_some, decide_eq_true (show σ (40 + 18 * (t (p + 1) - 48)) < 2 by omega), if_neg (show ¬ nI (bN true) = 0 from by decide), pullOn_E (by omega), Option.bind_some]
      dsimp only
      rw [if_neg (nI_pos (by have := CW_lies (hW.2.2.2.1 _ hlt.1); omega)), dn322_1, show nI o + 0 = nI (o + 0) from nI_add o 0]
    · obtain ⟨κ', t1, t2⟩ := pullOut_t hO.1 hW hlt.1 hlt.2
      refine ⟨κ', ⟨t2, pull_WF hW hlt.1, pull_GT hO.2.2.1, by rw [pul_o (by omega) (by omega) (by omega)]; have := hO.2.2.2; omega⟩, ?_⟩
      unfold fX3_doesCommand
      rw [at_c hL ht hp, Option.bind_some, hc, if_neg (show ¬ nI 112 = 104 from by decide), if_pos (show nI 112 = 112 from rfl), s1p, di_c hL ht (by omega) (by omega), Option.bind_some]
      rw [t1]
      rfl
  · have hu2 : uw σ (t (p + 1) - 48) = false := by simpa using hu
    refine Or.inr ⟨1, 5, 1, σ, 1, by omega, by omega, by omega, rfl, by omega, by omega, hW, ?_, eF, by omega, eD, fun κ m hO => ?_⟩
    · unfold fX4_readCommand; rw [m_gd (by omega) (by omega), m_cl (by omega), tp.2.2, hc, if_neg (show ¬ nI 112 = 104 from by decide), if_pos (show nI 112 = 112 from rfl), s1p]
      rw [fgC hL ht (by decide) (by omega), if_pos g1, Option.bind_some]
      dsimp only
      have ec : fX4_canPull (E σ) (nI (t (p + 1) - 48)) = some (nI 0) := by
        by_cases z : (t (p + 1) - 48) < σ 0
        · rw [canPull_E hW z, decide_eq_false (show ¬ σ (40 + 18 * (t (p + 1) - 48)) < 2 from fun y => by simp [uw, z, y] at hu2)]; rfl
        · exact canPull_f hW.1 (fun n hn e => by have := hW.1; have := (m_eq (by omega) (by omega)).mp e; omega)
      rw [if_neg (nI_no (by omega)), ec, Option.bind_some, if_pos (show nI 0 = 0 from rfl)]
      exact dn322_0.trans (by rw [show nI o + 1 = nI (o + 1) from nI_add o 1])
    · refine ⟨κ, hO.mono (by omega), ?_⟩
      unfold fX3_doesCommand
      rw [at_c hL ht hp, Option.bind_some, hc, if_neg (show ¬ nI 112 = 104 from by decide), if_pos (show nI 112 = 112 from rfl), s1p, di_c hL ht (by omega) (by omega), Option.bind_some]
      rw [pullOut_f hO.1 hW (by omega) hu2]
      rfl
theorem st_r (hL : L ≤ 120) (ht : ∀ j, j < L → t j ≤ 255 ∧ ch j = nI (t j) ∧ mt j = nI (t j)) (hp : p < L) (hW : WF σ) (hc : t p = 114) : STEP L t ch mt la cn G sv T B rf ac N O dy kp ik p o σ := by
  have tp := ht p hp
  by_cases h1 : fq L t 119 (p + 1) = false
  · refine Or.inl ⟨p + 1, hp, ?_, fun f s l hs hl hl5 => ?_⟩
    · unfold fX4_readCommand; rw [m_gd (by omega) (by omega), m_cl (by omega), tp.2.2, hc, if_neg (show ¬ nI 114 = 104 from by decide), if_neg (show ¬ nI 114 = 112 from by decide), if_pos (show nI 114 = 114 from rfl), s1p]
      rw [fgW hL ht (by decide) (by omega), h1, if_neg ff0, Option.bind_some]
      dsimp only
      rw [if_pos rfl]
    · refine (ff_r hL ht hp hc hs hl hl5 (f + 1 + 1 + 1 + 1)).trans ?_
      rw [h1, if_neg ff0]
  have g1 : fq L t 119 (p + 1) = true := by simpa using h1
  have k1 : p + 1 < L ∧ 48 ≤ t (p + 1) ∧ t (p + 1) ≤ 50 := f119.mp g1
  have eF : ∀ f s l, s < 6 → x_shl.getD s 0 = l → l ≤ 5 → fX2_firstFault_19 (nI L) ch (f + 1 + 1) s (nI l) (nI p) = fX2_firstFault_19 (nI L) ch f 4 (nI 1) (nI (p + 1 + 1)) := fun f s l hs hl hl5 => by
    refine (ff_r hL ht hp hc hs hl hl5 f).trans ?_
    rw [if_pos g1]
  have eD : ∀ j, j < 1 → ∃ s, fq L t s (p + 1 + j) = true ∧ 48 ≤ t (p + 1 + j) ∧ t (p + 1 + j) ≤ 57 := by
    intro j hj
    have : j = 0 := by omega
    subst this
    · exact ⟨119, g1, (by omega : 48 ≤ t (p + 1)), (by omega : t (p + 1) ≤ 57)⟩
  have eR : ∀ z, fX4_readCommand rf (nI L) ac (nI p) (nI o) mt N (E σ) O dy kp ik = z ↔ fX4_readCommand rf (nI L) ac (nI p) (nI o) mt N (E σ) O dy kp ik = z := fun z => Iff.rfl
  refine Or.inr ⟨1, 4, 1, upN σ 2 (t (p + 1) - 48), 0, by omega, by omega, by omega, rfl, by omega, by omega, rule_WF hW (by omega), ?_, eF, by omega, eD, fun κ m hO => ?_⟩
  · unfold fX4_readCommand; rw [m_gd (by omega) (by omega), m_cl (by omega), tp.2.2, hc, if_neg (show ¬ nI 114 = 104 from by decide), if_neg (show ¬ nI 114 = 112 from by decide), if_pos (show nI 114 = 114 from rfl), s1p]
    rw [fgW hL ht (by decide) (by omega), if_pos g1, Option.bind_some]
    dsimp only
    rw [if_neg (nI_no (by omega)), ruleOn_E, Option.bind_some]
    dsimp only
    rw [if_neg (nI_pos (by have := hW.2.1; omega)), dn273_1, show nI o + 0 = nI (o + 0) from nI_add o 0]
  · refine ⟨_, ⟨rep_rule hO.1 hW (v := (t (p + 1) - 48)) (by omega), rule_WF hW (by omega), rule_GT hO.2.2.1, by rw [upN_ne (by omega)]; have := hO.2.2.2; omega⟩, ?_⟩
    unfold fX3_doesCommand
    rw [at_c hL ht hp, Option.bind_some, hc, if_neg (show ¬ nI 114 = 104 from by decide), if_neg (show ¬ nI 114 = 112 from by decide), if_pos (show nI 114 = 114 from rfl), s1p, di_c hL ht (by omega) (by omega), Option.bind_some]
    rw [setRule_t (by omega)]
    rfl
theorem st_t (hL : L ≤ 120) (ht : ∀ j, j < L → t j ≤ 255 ∧ ch j = nI (t j) ∧ mt j = nI (t j)) (hp : p < L) (hW : WF σ) (hc : t p = 116) : STEP L t ch mt la cn G sv T B rf ac N O dy kp ik p o σ := by
  have tp := ht p hp
  by_cases h1 : fq L t 84 (p + 1) = false
  · refine Or.inl ⟨p + 1, hp, ?_, fun f s l hs hl hl5 => ?_⟩
    · unfold fX4_readCommand; rw [m_gd (by omega) (by omega), m_cl (by omega), tp.2.2, hc, if_neg (show ¬ nI 116 = 104 from by decide), if_neg (show ¬ nI 116 = 112 from by decide), if_neg (show ¬ nI 116 = 114 from by decide), if_pos (show nI 116 = 116 from rfl), s1p]
      rw [fgT hL ht (by decide) (by omega), h1, if_neg ff0, Option.bind_some]
      dsimp only
      rw [if_pos rfl]
    · refine (ff_t hL ht hp hc hs hl hl5 (f + 1 + 1 + 1)).trans ?_
      rw [h1, if_neg ff0]
  have g1 : fq L t 84 (p + 1) = true := by simpa using h1
  have k1 : p + 1 < L ∧ 48 ≤ t (p + 1) ∧ t (p + 1) ≤ 54 := f84.mp g1
  by_cases h2 : fq L t 116 (p + 1 + 1) = false
  · refine Or.inl ⟨p + 1 + 1, (fq_iff.mp g1).1, ?_, fun f s l hs hl hl5 => ?_⟩
    · unfold fX4_readCommand; rw [m_gd (by omega) (by omega), m_cl (by omega), tp.2.2, hc, if_neg (show ¬ nI 116 = 104 from by decide), if_neg (show ¬ nI 116 = 112 from by decide), if_neg (show ¬ nI 116 = 114 from by decide), if_pos (show nI 116 = 116 from rfl), s1p]
      rw [fgT hL ht (by decide) (by omega), if_pos g1, h2, if_neg ff0, Option.bind_some]
      dsimp only
      rw [if_pos rfl]
    · refine (ff_t hL ht hp hc hs hl hl5 (f + 1 + 1 + 1)).trans ?_
      rw [if_pos g1, h2, if_neg ff0]
  have g2 : fq L t 116 (p + 1 + 1) = true := by simpa using h2
  have k2 : p + 1 + 1 < L ∧ (if t (p + 1) = 48 then 49 else 48) ≤ t (p + 1 + 1) ∧ t (p + 1 + 1) ≤ if t (p + 1) = 54 then 48 else 57 := f116.mp g2
  have b2 : 48 ≤ t (p + 1 + 1) ∧ t (p + 1 + 1) ≤ 57 ∧ 1 ≤ (t (p + 1) - 48) * 10 + (t (p + 1 + 1) - 48) ∧ (t (p + 1) - 48) * 10 + (t (p + 1 + 1) - 48) ≤ 60 := by (repeat' split at k2) <;> omega
  have eF : ∀ f s l, s < 6 → x_shl.getD s 0 = l → l ≤ 5 → fX2_firstFault_19 (nI L) ch (f + 1 + 2) s (nI l) (nI p) = fX2_firstFault_19 (nI L) ch f 2 (nI 2) (nI (p + 1 + 2)) := fun f s l hs hl hl5 => by
    refine (ff_t hL ht hp hc hs hl hl5 f).trans ?_
    rw [if_pos g1, if_pos g2]
  have eD : ∀ j, j < 2 → ∃ s, fq L t s (p + 1 + j) = true ∧ 48 ≤ t (p + 1 + j) ∧ t (p + 1 + j) ≤ 57 := by
    intro j hj
    have : j = 0 ∨ j = 1 := by omega
    rcases this with rfl | rfl
    · exact ⟨84, g1, (by omega : 48 ≤ t (p + 1)), (by omega : t (p + 1) ≤ 57)⟩
    · exact ⟨116, g2, (by omega : 48 ≤ t (p + 1 + 1)), (by omega : t (p + 1 + 1) ≤ 57)⟩
  have eR : ∀ z, fX4_readCommand rf (nI L) ac (nI p) (nI o) mt N (E σ) O dy kp ik = z ↔ fX4_readCommand rf (nI L) ac (nI p) (nI o) mt N (E σ) O dy kp ik = z := fun z => Iff.rfl
  refine Or.inr ⟨2, 2, 2, ticksN σ ((t (p + 1) - 48) * 10 + (t (p + 1 + 1) - 48)), 0, by omega, by omega, by omega, rfl, by omega, by omega, ticks_WF _ _ hW, ?_, eF, by omega, eD, fun κ m hO => ?_⟩
  · unfold fX4_readCommand; rw [m_gd (by omega) (by omega), m_cl (by omega), tp.2.2, hc, if_neg (show ¬ nI 116 = 104 from by decide), if_neg (show ¬ nI 116 = 112 from by decide), if_neg (show ¬ nI 116 = 114 from by decide), if_pos (show nI 116 = 116 from rfl), s1p]
    rw [fgT hL ht (by decide) (by omega), if_pos g1, if_pos g2, Option.bind_some]
    dsimp only
    rw [if_neg (nI_no (by omega)), ticksOn_E hW (by omega), Option.bind_some]
    dsimp only
    rw [if_neg (nI_pos (by have := cnt_le (ticksN σ ((t (p + 1) - 48) * 10 + (t (p + 1 + 1) - 48))) 2 (ticksN σ ((t (p + 1) - 48) * 10 + (t (p + 1 + 1) - 48)) 0) 0; have := hW.1; have := ticks_0 ((t (p + 1) - 48) * 10 + (t (p + 1 + 1) - 48)) σ; unfold cntN; omega)), dn182_1, show nI o + 0 = nI (o + 0) from nI_add o 0]
  · obtain ⟨κ', t1, t2⟩ := runTicks_c hO.1 hW (v := ((t (p + 1) - 48) * 10 + (t (p + 1 + 1) - 48))) (by omega) (by omega)
    refine ⟨κ', ⟨t2, ticks_WF _ _ hW, ticks_GT _ _ hW hO.2.2.1, by rw [ticks_1]; have := hO.2.2.2; omega⟩, ?_⟩
    unfold fX3_doesCommand
    rw [at_c hL ht hp, Option.bind_some, hc, if_neg (show ¬ nI 116 = 104 from by decide), if_neg (show ¬ nI 116 = 112 from by decide), if_neg (show ¬ nI 116 = 114 from by decide), if_pos (show nI 116 = 116 from rfl), s1p, tw_c hL ht (by omega) (by omega) (by omega), Option.bind_some]
    rw [t1]
    rfl
theorem st_x (hL : L ≤ 120) (ht : ∀ j, j < L → t j ≤ 255 ∧ ch j = nI (t j) ∧ mt j = nI (t j)) (hp : p < L) (hW : WF σ) (hc : t p = 120) : STEP L t ch mt la cn G sv T B rf ac N O dy kp ik p o σ := by
  have tp := ht p hp
  by_cases h1 : fq L t 82 (p + 1) = false
  · refine Or.inl ⟨p + 1, hp, ?_, fun f s l hs hl hl5 => ?_⟩
    · unfold fX4_readCommand; rw [m_gd (by omega) (by omega), m_cl (by omega), tp.2.2, hc, if_neg (show ¬ nI 120 = 104 from by decide), if_neg (show ¬ nI 120 = 112 from by decide), if_neg (show ¬ nI 120 = 114 from by decide), if_neg (show ¬ nI 120 = 116 from by decide), if_pos (show nI 120 = 120 from rfl), s1p]
      rw [fgR hL ht (by decide) (by omega), h1, if_neg ff0, Option.bind_some]
      dsimp only
      rw [if_pos rfl]
    · refine (ff_x hL ht hp hc hs hl hl5 (f + 1 + 1 + 1)).trans ?_
      rw [h1, if_neg ff0]
  have g1 : fq L t 82 (p + 1) = true := by simpa using h1
  have k1 : p + 1 < L ∧ 48 ≤ t (p + 1) ∧ t (p + 1) ≤ 51 := f82.mp g1
  by_cases h2 : fq L t 114 (p + 1 + 1) = false
  · refine Or.inl ⟨p + 1 + 1, (fq_iff.mp g1).1, ?_, fun f s l hs hl hl5 => ?_⟩
    · unfold fX4_readCommand; rw [m_gd (by omega) (by omega), m_cl (by omega), tp.2.2, hc, if_neg (show ¬ nI 120 = 104 from by decide), if_neg (show ¬ nI 120 = 112 from by decide), if_neg (show ¬ nI 120 = 114 from by decide), if_neg (show ¬ nI 120 = 116 from by decide), if_pos (show nI 120 = 120 from rfl), s1p]
      rw [fgR hL ht (by decide) (by omega), if_pos g1, h2, if_neg ff0, Option.bind_some]
      dsimp only
      rw [if_pos rfl]
    · refine (ff_x hL ht hp hc hs hl hl5 (f + 1 + 1 + 1)).trans ?_
      rw [if_pos g1, h2, if_neg ff0]
  have g2 : fq L t 114 (p + 1 + 1) = true := by simpa using h2
  have k2 : p + 1 + 1 < L ∧ 48 ≤ t (p + 1 + 1) ∧ t (p + 1 + 1) ≤ if t (p + 1) = 51 then 53 else 57 := f114.mp g2
  have b2 : 48 ≤ t (p + 1 + 1) ∧ t (p + 1 + 1) ≤ 57 ∧ (t (p + 1) - 48) * 10 + (t (p + 1 + 1) - 48) < 36 := by split at k2 <;> omega
  have eF : ∀ f s l, s < 6 → x_shl.getD s 0 = l → l ≤ 5 → fX2_firstFault_19 (nI L) ch (f + 1 + 2) s (nI l) (nI p) = fX2_firstFault_19 (nI L) ch f 3 (nI 2) (nI (p + 1 + 2)) := fun f s l hs hl hl5 => by
    refine (ff_x hL ht hp hc hs hl hl5 f).trans ?_
    rw [if_pos g1, if_pos g2]
  have eD : ∀ j, j < 2 → ∃ s, fq L t s (p + 1 + j) = true ∧ 48 ≤ t (p + 1 + j) ∧ t (p + 1 + j) ≤ 57 := by
    intro j hj
    have : j = 0 ∨ j = 1 := by omega
    rcases this with rfl | rfl
    · exact ⟨82, g1, (by omega : 48 ≤ t (p + 1)), (by omega : t (p + 1) ≤ 57)⟩
    · exact ⟨114, g2, (by omega : 48 ≤ t (p + 1 + 1)), (by omega : t (p + 1 + 1) ≤ 57)⟩
  have eR : ∀ z, fX4_readCommand rf (nI L) ac (nI p) (nI o) mt N (E σ) O dy kp ik = z ↔ fX4_readCommand rf (nI L) ac (nI p) (nI o) mt N (E σ) O dy kp ik = z := fun z => Iff.rfl
  have eS : ∀ m κ, OKS m κ σ → fX0_setShut (E κ) (nI ((t (p + 1) - 48) * 10 + (t (p + 1 + 1) - 48))) 1 = if (!true || tk σ ((t (p + 1) - 48) * 10 + (t (p + 1 + 1) - 48)) == 4294967295) = true then some (nI 1, E (upN κ (4 + ((t (p + 1) - 48) * 10 + (t (p + 1 + 1) - 48))) 1)) else some (nI 0, E κ) := fun m κ hO => setShut_c hO.1 hW (by omega) true
  have eC : fX4_canShut (E σ) (nI ((t (p + 1) - 48) * 10 + (t (p + 1 + 1) - 48))) 1 = some (nI (bN (!true || tk σ ((t (p + 1) - 48) * 10 + (t (p + 1 + 1) - 48)) == 4294967295))) := canShut_E hW (by omega) true
  have eO : fX4_shutOn (E σ) (nI ((t (p + 1) - 48) * 10 + (t (p + 1 + 1) - 48))) 1 = some (nI (shS (upN σ (4 + ((t (p + 1) - 48) * 10 + (t (p + 1 + 1) - 48))) 1) 36 0), E (upN σ (4 + ((t (p + 1) - 48) * 10 + (t (p + 1 + 1) - 48))) 1)) := shutOn_E (by omega) true
  have hW2 : WF (upN σ (4 + ((t (p + 1) - 48) * 10 + (t (p + 1 + 1) - 48))) 1) := shut_WF hW (by omega) (by omega)
  have hs1 : 1 ≤ shS (upN σ (4 + ((t (p + 1) - 48) * 10 + (t (p + 1 + 1) - 48))) 1) 36 0 := shS_pos (v := ((t (p + 1) - 48) * 10 + (t (p + 1 + 1) - 48))) 36 0 (by omega) (by omega) (by rw [upN_same])
  have hs2 : shS (upN σ (4 + ((t (p + 1) - 48) * 10 + (t (p + 1 + 1) - 48))) 1) 36 0 ≤ 36 := shS_le 36 0 (fun k hk => hW2.2.2.1 k (by omega))
  by_cases hu : (!true || tk σ ((t (p + 1) - 48) * 10 + (t (p + 1 + 1) - 48)) == 4294967295) = true
  · rw [hu] at eC
    refine Or.inr ⟨2, 3, 2, upN σ (4 + ((t (p + 1) - 48) * 10 + (t (p + 1 + 1) - 48))) 1, 0, by omega, by omega, by omega, rfl, by omega, by omega, hW2, ?_, eF, by omega, eD, fun κ m hO => ?_⟩
    · unfold fX4_readCommand; rw [m_gd (by omega) (by omega), m_cl (by omega), tp.2.2, hc, if_neg (show ¬ nI 120 = 104 from by decide), if_neg (show ¬ nI 120 = 112 from by decide), if_neg (show ¬ nI 120 = 114 from by decide), if_neg (show ¬ nI 120 = 116 from by decide), if_pos (show nI 120 = 120 from rfl), s1p]
      rw [fgR hL ht (by decide) (by omega), if_pos g1, if_pos g2, Option.bind_some]
      dsimp only
      rw [if_neg (nI_no (by omega)), eC, Option.bind_some, if_neg (show ¬ nI (bN true) = 0 from by decide), eO, Option.bind_some]
      dsimp only
      rw [if_neg (show ¬ nI _ ≤ 0 from fun e => by have := (m_le (b := 0) (by omega) (by omega)).mp e; omega), dn233_1, show nI o + 0 = nI (o + 0) from nI_add o 0]
    · refine ⟨_, ⟨rep_shut hO.1 hW (k := ((t (p + 1) - 48) * 10 + (t (p + 1 + 1) - 48))) (v := 1) (by omega) (by omega), hW2, shut_GT hO.2.2.1 (by omega), by rw [upN_ne (by omega)]; have := hO.2.2.2; omega⟩, ?_⟩
      unfold fX3_doesCommand
      rw [at_c hL ht hp, Option.bind_some, hc, if_neg (show ¬ nI 120 = 104 from by decide), if_neg (show ¬ nI 120 = 112 from by decide), if_neg (show ¬ nI 120 = 114 from by decide), if_neg (show ¬ nI 120 = 116 from by decide), if_pos (show nI 120 = 120 from rfl), s1p, tw_c hL ht (by omega) (by omega) (by omega), Option.bind_some]
      rw [eS m κ hO, if_pos hu]
      rfl
  · have hu2 : (!true || tk σ ((t (p + 1) - 48) * 10 + (t (p + 1 + 1) - 48)) == 4294967295) = false := by simpa using hu
    rw [hu2] at eC
    refine Or.inr ⟨2, 3, 2, σ, 1, by omega, by omega, by omega, rfl, by omega, by omega, hW, ?_, eF, by omega, eD, fun κ m hO => ?_⟩
    · unfold fX4_readCommand; rw [m_gd (by omega) (by omega), m_cl (by omega), tp.2.2, hc, if_neg (show ¬ nI 120 = 104 from by decide), if_neg (show ¬ nI 120 = 112 from by decide), if_neg (show ¬ nI 120 = 114 from by decide), if_neg (show ¬ nI 120 = 116 from by decide), if_pos (show nI 120 = 120 from rfl), s1p]
      rw [fgR hL ht (by decide) (by omega), if_pos g1, if_pos g2, Option.bind_some]
      dsimp only
      rw [if_neg (nI_no (by omega)), eC, Option.bind_some, if_pos (show nI (bN false) = 0 from rfl)]
      exact dn233_0.trans (by rw [show nI o + 1 = nI (o + 1) from nI_add o 1])
    · refine ⟨κ, hO.mono (by omega), ?_⟩
      unfold fX3_doesCommand
      rw [at_c hL ht hp, Option.bind_some, hc, if_neg (show ¬ nI 120 = 104 from by decide), if_neg (show ¬ nI 120 = 112 from by decide), if_neg (show ¬ nI 120 = 114 from by decide), if_neg (show ¬ nI 120 = 116 from by decide), if_pos (show nI 120 = 120 from rfl), s1p, tw_c hL ht (by omega) (by omega) (by omega), Option.bind_some]
      rw [eS m κ hO, if_neg hu]
      rfl
end CMDT
