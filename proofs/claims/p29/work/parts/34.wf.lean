/-! what a step keeps -/
section WFS
variable {σ τ : Nat → Nat} {i k w v : Nat}
theorem CW_congr {j : Nat} (h9 : σ (40 + 18 * j + 1) ≤ 9) (e : ∀ w, w < 18 → τ (40 + 18 * j + w) = σ (40 + 18 * j + w)) (h : CW σ j) : CW τ j := by
  have e0 : τ (40 + 18 * j) = σ (40 + 18 * j) := e 0 (by omega)
  unfold CW at h ⊢
  rw [e0, e 1 (by omega), e 2 (by omega), e 3 (by omega), e 6 (by omega), e 7 (by omega), e 8 (by omega)]
  refine ⟨h.1, h.2.1, h.2.2.1, h.2.2.2.1, h.2.2.2.2.1, h.2.2.2.2.2.1, fun p hp => ?_, h.2.2.2.2.2.2.2⟩
  rw [e (9 + p) (by omega)]
  exact h.2.2.2.2.2.2.1 p hp
theorem CW_lies (h : CW σ i) : σ (40 + 18 * i + 1) ≤ 9 := by
  have := h.2.1; have := h.2.2.2.2.2.1; omega
theorem WF_step (h : WF σ) (h0 : τ 0 = σ 0) (h2 : τ 2 = σ 2) (hs : ∀ k, k < 36 → τ (4 + k) = σ (4 + k)) (ho : ∀ j w, j ≠ i → w < 18 → τ (40 + 18 * j + w) = σ (40 + 18 * j + w)) (hc : CW τ i)
    (hA : ∀ p, p < τ (40 + 18 * i + 1) → ∀ j q, j ≠ i → j < σ 0 → q < σ (40 + 18 * j + 1) → τ (40 + 18 * i + (9 + p)) ≠ σ (40 + 18 * j + (9 + q)))
    (hB : ∀ p q, p < τ (40 + 18 * i + 1) → q < τ (40 + 18 * i + 1) → τ (40 + 18 * i + (9 + p)) = τ (40 + 18 * i + (9 + q)) → p = q) : WF τ := by
  obtain ⟨a1, a2, a3, a4, a5⟩ := h
  refine ⟨by omega, by omega, fun k hk => by rw [hs k hk]; exact a3 k hk, fun j hj => ?_, ?_⟩
  · by_cases hji : j = i
    · rw [hji]; exact hc
    · exact CW_congr (CW_lies (a4 j (by omega))) (fun w hw => ho j w hji hw) (a4 j (by omega))
  · intro x y p q hx hy hp hq e
    by_cases hxi : x = i
    · subst hxi
      by_cases hyi : y = x
      · subst hyi
        exact ⟨rfl, hB p q hp hq e⟩
      · have e1 := ho y 1 hyi (by omega)
        have l := CW_lies (a4 y (by omega))
        rw [ho y (9 + q) hyi (by omega)] at e
        exact absurd e (hA p hp y q hyi (by omega) (by omega))
    · have e1 := ho x 1 hxi (by omega)
      have l := CW_lies (a4 x (by omega))
      rw [ho x (9 + p) hxi (by omega)] at e
      by_cases hyi : y = i
      · subst hyi
        exact absurd e.symm (hA q hq x p hxi (by omega) (by omega))
      · have e2 := ho y 1 hyi (by omega)
        have l2 := CW_lies (a4 y (by omega))
        rw [ho y (9 + q) hyi (by omega)] at e
        exact a5 x y p q (by omega) (by omega) (by omega) (by omega) e
/-- waiting changes the counts of the waits alone; ticks the tick's -/
def Cor (σ τ : Nat → Nat) : Prop := ∀ x, x ≠ 1 → x ≠ 3 → (∀ i, x ≠ 40 + 18 * i + 4 ∧ x ≠ 40 + 18 * i + 5) → τ x = σ x
theorem Cor.rf : Cor σ σ := fun _ _ _ _ => rfl
theorem Cor.tr {ρ : Nat → Nat} (h : Cor σ τ) (h2 : Cor τ ρ) : Cor σ ρ := fun x a b c => (h2 x a b c).trans (h x a b c)
theorem Cor.sy (h : Cor σ τ) : Cor τ σ := fun x a b c => (h x a b c).symm
theorem Cor.at (h : Cor σ τ) (j w : Nat) (hw : w < 18) (h4 : w ≠ 4) (h5 : w ≠ 5) : τ (40 + 18 * j + w) = σ (40 + 18 * j + w) := h _ (by omega) (by omega) (fun i => by omega)
theorem Cor.at0 (h : Cor σ τ) (j : Nat) : τ (40 + 18 * j) = σ (40 + 18 * j) := h.at j 0 (by omega) (by omega) (by omega)
theorem Cor.lo (h : Cor σ τ) {x : Nat} (hx : x < 40) (h1 : x ≠ 1) (h3 : x ≠ 3) : τ x = σ x := h x h1 h3 (fun i => by omega)
theorem Cor.wf (h : Cor σ τ) (hw : WF σ) : WF τ := by
  obtain ⟨a1, a2, a3, a4, a5⟩ := hw
  have z0 := h.lo (x := 0) (by omega) (by omega) (by omega)
  refine ⟨by omega, by rw [h.lo (by omega) (by omega) (by omega)]; exact a2, fun k hk => by rw [h.lo (by omega) (by omega) (by omega)]; exact a3 k hk, fun j hj => ?_, ?_⟩
  · have l := CW_lies (a4 j (by omega))
    have hc := a4 j (by omega)
    unfold CW at hc ⊢
    rw [h.at0, h.at j 1 (by omega) (by omega) (by omega), h.at j 2 (by omega) (by omega) (by omega), h.at j 3 (by omega) (by omega) (by omega), h.at j 6 (by omega) (by omega) (by omega), h.at j 7 (by omega) (by omega) (by omega), h.at j 8 (by omega) (by omega) (by omega)]
    refine ⟨hc.1, hc.2.1, hc.2.2.1, hc.2.2.2.1, hc.2.2.2.2.1, hc.2.2.2.2.2.1, fun p hp => ?_, hc.2.2.2.2.2.2.2⟩
    rw [h.at j (9 + p) (by omega) (by omega) (by omega)]
    exact hc.2.2.2.2.2.2.1 p hp
  · intro x y p q hx hy hp hq e
    have l := CW_lies (a4 x (by omega))
    have l2 := CW_lies (a4 y (by omega))
    have e1 := h.at x 1 (by omega) (by omega) (by omega)
    have e2 := h.at y 1 (by omega) (by omega) (by omega)
    rw [h.at x (9 + p) (by omega) (by omega) (by omega), h.at y (9 + q) (by omega) (by omega) (by omega)] at e
    exact a5 x y p q (by omega) (by omega) (by omega) (by omega) e
theorem Cor.occ (h : Cor σ τ) (hl : σ (40 + 18 * i + 1) ≤ 9) : occ τ i k = occ σ i k := by
  have e1 := h.at i 1 (by omega) (by omega) (by omega)
  rw [Bool.eq_iff_iff, occ_iff, occ_iff, e1]
  constructor
  · rintro ⟨p, a, b⟩; exact ⟨p, a, by rw [← b, h.at i (9 + p) (by omega) (by omega) (by omega)]⟩
  · rintro ⟨p, a, b⟩; exact ⟨p, a, by rw [← b, h.at i (9 + p) (by omega) (by omega) (by omega)]⟩
theorem Cor.tkF (h : Cor σ τ) (hw : WF σ) : ∀ n i, i + n ≤ σ 0 → tkF τ k n i = tkF σ k n i := by
  intro n
  induction n with
  | zero => intro i _; rfl
  | succ n ih =>
    intro i hi
    rw [_root_.Jvm.Pilot.CLongCaterpillarsLaw_law_r1891_b39e61.tkF, _root_.Jvm.Pilot.CLongCaterpillarsLaw_law_r1891_b39e61.tkF, h.occ (CW_lies (hw.2.2.2.1 i (by omega))), ih (i + 1) (by omega)]
theorem Cor.tk (h : Cor σ τ) (hw : WF σ) : tk τ k = tk σ k := by
  have z0 := h.lo (x := 0) (by omega) (by omega) (by omega)
  unfold _root_.Jvm.Pilot.CLongCaterpillarsLaw_law_r1891_b39e61.tk
  rw [z0]
  exact h.tkF hw _ _ (by omega)
theorem Cor.fr (h : Cor σ τ) (hw : WF σ) (hk : k < 36) : fr τ k = fr σ k := by
  unfold _root_.Jvm.Pilot.CLongCaterpillarsLaw_law_r1891_b39e61.fr
  rw [h.tk hw, h.lo (by omega) (by omega) (by omega)]
theorem Cor.eats (h : Cor σ τ) : eats τ i = eats σ i := by
  unfold _root_.Jvm.Pilot.CLongCaterpillarsLaw_law_r1891_b39e61.eats
  rw [h.at0, h.at i 9 (by omega) (by omega) (by omega), h.at i 7 (by omega) (by omega) (by omega)]
theorem Cor.nrB (h : Cor σ τ) (hw : WF σ) {r c : Nat} (hr : r < 36 ∨ r = 4294967295) (hc : c < 36 ∨ c = 4294967295) : nrB τ r c = nrB σ r c := by
  unfold _root_.Jvm.Pilot.CLongCaterpillarsLaw_law_r1891_b39e61.nrB
  rw [h.lo (x := 2) (by omega) (by omega) (by omega)]
  congr 1
  congr 1
  · congr 2
    rcases hr with hr | hr
    · rw [h.fr hw hr]
    · simp [hr]
  · rcases hc with hc | hc
    · rw [h.fr hw hc]
    · simp [hc]
theorem Cor.wants (h : Cor σ τ) (hw : WF σ) (hi : i < σ 0) : wants τ i = wants σ i := by
  unfold _root_.Jvm.Pilot.CLongCaterpillarsLaw_law_r1891_b39e61.wants
  rw [h.at0, h.eats, h.at i 6 (by omega) (by omega) (by omega)]
  by_cases g : σ (40 + 18 * i) = 1
  · obtain ⟨c1, c2, c3, c4, c5, c6, c7, c8, -⟩ := hw.2.2.2.1 i hi
    have hh : σ (40 + 18 * i + 9) < 36 := c7 0 (by have := c8 g; omega)
    unfold nr nrF
    rw [h.at i 9 (by omega) (by omega) (by omega), h.at i 7 (by omega) (by omega) (by omega), h.nrB hw (alR_in _ hh _ c5) (alC_in _ hh _ c5)]
  · by_cases g0 : σ (40 + 18 * i) = 0
    · rw [if_pos g0, if_pos g0]
    · rw [if_neg g0, if_neg g0, if_neg (fun z => g z.1), if_neg (fun z => g z.1)]
theorem waitN_cor : Cor σ (waitN σ i) := by
  intro x h1 h3 h4
  unfold waitN
  rw [upN_ne h3, upN_ne (h4 i).1]
end WFS
