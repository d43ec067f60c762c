section TKS
variable {σ τ : Nat → Nat} {i k w v x : Nat}
theorem tk_is (h : WF τ) (hv : (v = 4294967295 ∧ ∀ j, j < τ 0 → occ τ j x = false) ∨ (v < τ 0 ∧ occ τ v x = true)) : tk τ x = v := by
  rcases hv with ⟨a, b⟩ | ⟨a, b⟩
  · rcases tk_cases τ x with ⟨c, _⟩ | ⟨c, d⟩
    · rw [c, a]
    · rw [b _ c] at d; cases d
  · exact tk_of h a b
theorem occ_j {j : Nat} (h9 : σ (40 + 18 * j + 1) ≤ 9) (e : ∀ w, w < 18 → τ (40 + 18 * j + w) = σ (40 + 18 * j + w)) : occ τ j x = occ σ j x := by
  have e1 := e 1 (by omega)
  rw [Bool.eq_iff_iff, occ_iff, occ_iff, e1]
  constructor
  · rintro ⟨p, a, b⟩; exact ⟨p, a, by rw [← b, e (9 + p) (by omega)]⟩
  · rintro ⟨p, a, b⟩; exact ⟨p, a, by rw [← b, e (9 + p) (by omega)]⟩
/-- the others' rooms stay: only what becomes of i's own is to be told -/
theorem tk_step (h : WF σ) (ht : WF τ) (hi : i < σ 0) (h0 : τ 0 = σ 0) (ho : ∀ j w, j ≠ i → w < 18 → τ (40 + 18 * j + w) = σ (40 + 18 * j + w)) (b : Bool) (hb : occ τ i x = b) (hx : b = true ∨ occ σ i x = b ∨ (b = false ∧ occ σ i x = true)) :
    tk τ x = if b = true then i else if occ σ i x = true then 4294967295 else tk σ x := by
  have hj : ∀ j, j ≠ i → j < σ 0 → occ τ j x = occ σ j x := fun j h1 h2 => occ_j (CW_lies (h.2.2.2.1 j h2)) (fun w hw => ho j w h1 hw)
  cases b
  · rw [if_neg (by decide)]
    by_cases g : occ σ i x = true
    · rw [if_pos g]
      refine tk_is ht (Or.inl ⟨rfl, fun j h1 => ?_⟩)
      by_cases e : j = i
      · rw [e]; exact hb
      · rw [hj j e (by omega)]
        refine Bool.eq_false_iff.mpr (fun z => e ?_)
        have a1 := tk_of h (by omega) z
        have a2 := tk_of h hi g
        exact a1.symm.trans a2
    · rw [if_neg g]
      rcases tk_cases σ x with ⟨c, d⟩ | ⟨c, d⟩
      · refine tk_is ht (Or.inl ⟨c, fun j h1 => ?_⟩)
        by_cases e : j = i
        · rw [e]; exact hb
        · rw [hj j e (by omega)]; exact d j (by omega)
      · refine tk_is ht (Or.inr ⟨by omega, ?_⟩)
        have e : tk σ x ≠ i := fun z => g (z ▸ d)
        rw [hj _ e c]; exact d
  · rw [if_pos rfl]
    exact tk_is ht (Or.inr ⟨by omega, hb⟩)
theorem tk_go (h : WF σ) (hi : i < σ 0) (hk : k < 36) (hn : tk σ k = 4294967295) (h1 : σ (40 + 18 * i) ≤ 1) : tk (goN σ i k) x = if x = k then i else if σ (40 + 18 * i + 2) = 0 ∧ x = σ (40 + 18 * i + (9 + (σ (40 + 18 * i + 1) - 1))) then 4294967295 else tk σ x := by
  have h10 := h.1
  obtain ⟨c1, c2, c3, c4, c5, c6, c7, c8, c9, c10, c11⟩ := h.2.2.2.1 i hi
  have ht := go_WF h hi hk hn h1
  have ho : ∀ j w, j ≠ i → w < 18 → goN σ i k (40 + 18 * j + w) = σ (40 + 18 * j + w) := fun j w hj hw => go_o (by omega)
  have hlies : σ (40 + 18 * i + 2) = 0 → 1 ≤ σ (40 + 18 * i + 1) := by
    intro hp
    by_cases g : σ (40 + 18 * i) = 0
    · have := c11 g; omega
    · exact c8 (by omega)
  have hocc : occ (goN σ i k) i x = true ↔ x = k ∨ (occ σ i x = true ∧ ¬ (σ (40 + 18 * i + 2) = 0 ∧ x = σ (40 + 18 * i + (9 + (σ (40 + 18 * i + 1) - 1))))) := by
    rw [occ_iff, occ_iff, go_1]
    constructor
    · rintro ⟨p, a, b⟩
      cases p with
      | zero => left; rw [← b]; exact go_h
      | succ p =>
        right
        have hp : p < σ (40 + 18 * i + 1) ∧ p + 1 ≤ 8 ∧ (σ (40 + 18 * i + 2) = 0 → p + 1 < σ (40 + 18 * i + 1)) := by split at a <;> omega
        rw [go_r (by omega) (by omega)] at b
        refine ⟨⟨p, hp.1, b⟩, fun z => ?_⟩
        have := (h.2.2.2.2 i i p (σ (40 + 18 * i + 1) - 1) hi hi hp.1 (by have := hlies z.1; omega) (by rw [b]; exact z.2)).2
        have := hp.2.2 z.1
        omega
    · rintro (e | ⟨⟨p, a, b⟩, c⟩)
      · refine ⟨0, ?_, by rw [e]; exact go_h⟩
        split
        · have := hlies (by assumption); omega
        · omega
      · refine ⟨p + 1, ?_, ?_⟩
        · split
          · rename_i g
            by_cases e : p = σ (40 + 18 * i + 1) - 1
            · exact absurd ⟨g, by rw [← e]; exact b.symm⟩ c
            · omega
          · omega
        · rw [go_r (by omega) (by
            by_cases g : σ (40 + 18 * i + 2) = 0
            · by_cases e : p = σ (40 + 18 * i + 1) - 1
              · exact absurd ⟨g, by rw [← e]; exact b.symm⟩ c
              · omega
            · omega)]
          exact b
  rw [tk_step h ht hi (go_o (by omega)) ho _ rfl (by cases occ (goN σ i k) i x <;> cases occ σ i x <;> simp)]
  by_cases e : x = k
  · rw [if_pos e, if_pos (hocc.mpr (Or.inl e))]
  · rw [if_neg e]
    by_cases g : σ (40 + 18 * i + 2) = 0 ∧ x = σ (40 + 18 * i + (9 + (σ (40 + 18 * i + 1) - 1)))
    · have o1 : occ σ i x = true := occ_iff.mpr ⟨σ (40 + 18 * i + 1) - 1, by have := hlies g.1; omega, g.2.symm⟩
      rw [if_pos g, if_neg (fun z => (hocc.mp z).elim e (fun y => y.2 g)), if_pos o1]
    · rw [if_neg g]
      by_cases o1 : occ σ i x = true
      · rw [if_pos (hocc.mpr (Or.inr ⟨o1, g⟩)), tk_of h hi o1]
      · rw [if_neg (fun z => (hocc.mp z).elim e (fun y => o1 y.1)), if_neg o1]
theorem tk_eat (h : WF σ) (hi : i < σ 0) (h1 : σ (40 + 18 * i) = 1) : tk (eatN σ i) x = if σ (40 + 18 * i + 2) = 0 ∧ x = σ (40 + 18 * i + (9 + (σ (40 + 18 * i + 1) - 1))) then 4294967295 else tk σ x := by
  have h10 := h.1
  obtain ⟨c1, c2, c3, c4, c5, c6, c7, c8, c9, c10, c11⟩ := h.2.2.2.1 i hi
  have g8 := c8 h1
  have ht := eat_WF h hi h1
  have ho : ∀ j w, j ≠ i → w < 18 → eatN σ i (40 + 18 * j + w) = σ (40 + 18 * j + w) := fun j w hj hw => eat_o (by omega)
  have e1 : eatN σ i (40 + 18 * i + 1) = if σ (40 + 18 * i + 2) = 0 then σ (40 + 18 * i + 1) - 1 else σ (40 + 18 * i + 1) := by rw [eat_x (by omega) (by omega), eat2_1]
  have hocc : occ (eatN σ i) i x = true ↔ (occ σ i x = true ∧ ¬ (σ (40 + 18 * i + 2) = 0 ∧ x = σ (40 + 18 * i + (9 + (σ (40 + 18 * i + 1) - 1))))) := by
    rw [occ_iff, occ_iff, e1]
    constructor
    · rintro ⟨p, a, b⟩
      rw [eat_o (by omega)] at b
      have hp : p < σ (40 + 18 * i + 1) ∧ (σ (40 + 18 * i + 2) = 0 → p + 1 < σ (40 + 18 * i + 1)) := by split at a <;> omega
      refine ⟨⟨p, hp.1, b⟩, fun z => ?_⟩
      have := (h.2.2.2.2 i i p (σ (40 + 18 * i + 1) - 1) hi hi hp.1 (by omega) (by rw [b]; exact z.2)).2
      have := hp.2 z.1
      omega
    · rintro ⟨⟨p, a, b⟩, c⟩
      refine ⟨p, ?_, by rw [eat_o (by omega)]; exact b⟩
      split
      · rename_i g
        by_cases e : p = σ (40 + 18 * i + 1) - 1
        · exact absurd ⟨g, by rw [← e]; exact b.symm⟩ c
        · omega
      · exact a
  rw [tk_step h ht hi (eat_o (by omega)) ho _ rfl (by cases occ (eatN σ i) i x <;> cases occ σ i x <;> simp)]
  by_cases g : σ (40 + 18 * i + 2) = 0 ∧ x = σ (40 + 18 * i + (9 + (σ (40 + 18 * i + 1) - 1)))
  · have o1 : occ σ i x = true := occ_iff.mpr ⟨σ (40 + 18 * i + 1) - 1, by omega, g.2.symm⟩
    rw [if_pos g, if_neg (fun z => (hocc.mp z).2 g), if_pos o1]
  · rw [if_neg g]
    by_cases o1 : occ σ i x = true
    · rw [if_pos (hocc.mpr ⟨o1, g⟩), tk_of h hi o1]
    · rw [if_neg (fun z => o1 (hocc.mp z).1), if_neg o1]
theorem tk_pull (h : WF σ) (hi : i < σ 0) : tk (pulN σ i) x = if tk σ x = i then 4294967295 else tk σ x := by
  have h10 := h.1
  have ht := pull_WF h hi
  have ho : ∀ j w, j ≠ i → w < 18 → pulN σ i (40 + 18 * j + w) = σ (40 + 18 * j + w) := fun j w hj hw => pul_o (by omega) (by omega) (by omega)
  have hocc : occ (pulN σ i) i x = false := by
    refine Bool.eq_false_iff.mpr (fun z => ?_)
    obtain ⟨p, a, b⟩ := occ_iff.mp z
    rw [pul_1] at a
    omega
  rw [tk_step h ht hi (pul_o (by omega) (by omega) (by omega)) ho _ hocc (by cases occ σ i x <;> simp), if_neg (by decide)]
  by_cases o1 : occ σ i x = true
  · rw [if_pos o1, if_pos (tk_of h hi o1)]
  · rw [if_neg o1]
    by_cases g : tk σ x = i
    · rcases tk_cases σ x with ⟨c, _⟩ | ⟨_, d⟩
      · omega
      · rw [g] at d; exact absurd d o1
    · rw [if_neg g]
/-- what reads of the rooms is the same -/
theorem tk_same (h : WF σ) (ht : WF τ) (h0 : τ 0 = σ 0) (ho : ∀ j w, j < σ 0 → w < 18 → τ (40 + 18 * j + w) = σ (40 + 18 * j + w)) : tk τ x = tk σ x := by
  have hj : ∀ j, j < σ 0 → occ τ j x = occ σ j x := fun j h2 => occ_j (CW_lies (h.2.2.2.1 j h2)) (fun w hw => ho j w h2 hw)
  rcases tk_cases σ x with ⟨c, d⟩ | ⟨c, d⟩
  · exact tk_is ht (Or.inl ⟨c, fun j h1 => by rw [hj j (by omega)]; exact d j (by omega)⟩)
  · exact tk_is ht (Or.inr ⟨by omega, by rw [hj _ c]; exact d⟩)
theorem tk_hat (h : WF σ) (h0 : σ 0 < 10) {c f n : Nat} (hc : c < 36) (hf : f < 36) (hn1 : 1 ≤ n) (hn : n ≤ 9) : tk (hatN σ c f n) x = tk σ x := by
  have ht := hat_WF h h0 hc hf hn1 hn
  have hj : ∀ j, j < σ 0 → occ (hatN σ c f n) j x = occ σ j x := fun j h2 => occ_j (CW_lies (h.2.2.2.1 j h2)) (fun w hw => hat_j c f n (by omega) hw)
  have hnew : occ (hatN σ c f n) (σ 0) x = false := by
    refine Bool.eq_false_iff.mpr (fun z => ?_)
    obtain ⟨p, a, b⟩ := occ_iff.mp z
    rw [hat_w c f n (by omega)] at a
    exact absurd a (by simp)
  have e0 := hat_0 (σ := σ) c f n
  rcases tk_cases σ x with ⟨c1, d⟩ | ⟨c1, d⟩
  · refine tk_is ht (Or.inl ⟨c1, fun j h1 => ?_⟩)
    by_cases e : j = σ 0
    · rw [e]; exact hnew
    · rw [hj j (by omega)]; exact d j (by omega)
  · exact tk_is ht (Or.inr ⟨by omega, by rw [hj _ c1]; exact d⟩)
end TKS
