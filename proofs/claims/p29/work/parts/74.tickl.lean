/-! TICKS AS THEY WERE TOLD, and their undo -/
section TKL
variable {σ τ κ : Nat → Nat} {h : List (Nat → Nat)} {sl : Nat → Option (Nat → Nat)} {m n x a k p g : Nat} {la cn us qla qcn qus : Int32} {ch C G sv T B qch qC qG qsv qT qB : Nat → Int32} {v5 v7 v8 z0 : Int32}
def TR (m : Nat) (σ : Nat → Nat) (h : List (Nat → Nat)) (sl : Nat → Option (Nat → Nat)) (sv qsv : Nat → Int32) (o : Option (Int32 × Int32 × Int32 × (Nat → Int32) × (Nat → Int32) × (Nat → Int32) × (Nat → Int32) × Int32 × Int32 × (Nat → Int32) × (Nat → Int32) × (Nat → Int32) × (Nat → Int32))) : Prop :=
  ∃ la' cn' C' G' B' qla' qcn' qC' qG' qB', o = some (1, la', cn', C', G', sv, B', qla', qcn', qC', qG', qsv, qB') ∧ HS m σ h sl la' cn' C' G' sv ∧ HS m σ h sl qla' qcn' qC' qG' qsv
theorem t303 (H : HS m τ (σ :: h) sl la cn C G sv) (Q : HS m τ (σ :: h) sl qla qcn qC qG qsv) : TR m σ h sl sv qsv (fM_ticks_303 us ch T qus qch qT (nI (untN thr 200 σ 0).1) (nI (cntN σ 2)) 1 la cn C G sv B qla qcn qC qG qsv qB) := by
  obtain ⟨a1, a2, a3, a4, e1, H1⟩ := k_undo (us := us) (ch := ch) (T := T) (B := B) (y := 0) (z := 0) (w := 0) H
  obtain ⟨b1, b2, b3, b4, e2, Q1⟩ := k_undo (us := qus) (ch := qch) (T := qT) (B := qB) (y := 0) (z := 0) (w := 0) Q
  have l1 := H1.1
  obtain ⟨B', e3⟩ := k_through (us := us) (ch := ch) (T := T) (B := B) H1
  refine ⟨a1, a2, a3, a4, B', b1, b2, b3, b4, qB, ?_, H1, Q1⟩
  unfold fM_ticks_303
  rw [if_neg (show ¬ (1 : Int32) = 0 from by decide), e1, Option.bind_some]
  dsimp only
  rw [thrown_ok (by omega), Option.bind_some, if_pos rfl, e2, Option.bind_some]
  dsimp only
  rw [thrown_ok (by omega), Option.bind_some, if_pos rfl, k_about (y := 3) H1 3 rfl (by omega), Option.bind_some]
  dsimp only
  rw [if_pos (show nI (abv σ 3) = nI (cntN σ 2) from rfl), e3, Option.bind_some]
  dsimp only
  rw [if_pos rfl]
theorem rz_lt (σ : Nat → Nat) (i : Nat) : rz (rng σ i) ≤ 11 := by
  unfold rz
  rcases rmo_in (σ := σ) (i := i) 5000 (blk σ i) 1 (by omega) with e | e
  · rw [if_pos (show rng σ i = 4294967295 from e)]; omega
  · have : rng σ i ≤ 11 := e.2
    split <;> omega
theorem t252 (hW : WF σ) (hX : XF σ) (H : HS m (ticksN σ n) (σ :: h) sl la cn C G sv) (Q : HS m (ticksN σ n) (σ :: h) sl qla qcn qC qG qsv) : TR m σ h sl sv qsv (fM_ticks_252 us ch T qus qch qT (nI (untN thr 200 σ 0).1) (nI (cntN σ 2)) (nI (rgdN σ)) la cn C G sv B qla qcn qC qG qsv qB) := by
  unfold fM_ticks_252 fM_ticks_298
  by_cases g : rgdN σ = 4294967295
  · rw [g, if_pos (show nI 4294967295 = -1 from by decide)]
    exact t303 H Q
  · have h0 := hW.1
    have hr : rgdN σ < σ 0 := (ring_none hW).resolve_left g
    have e2 : abv (ticksN σ n) 8 = σ 2 := ticks_lo (by omega) (by omega) (by omega) n σ
    have hb2 := hW.2.1
    rw [if_neg (nI_no (by omega)), k_about (y := 8) H 8 rfl (by omega), Option.bind_some]
    dsimp only
    rw [e2]
    by_cases g2 : σ 2 = 2
    · rw [if_pos (show nI (σ 2) = 2 from by rw [g2]; rfl)]
      exact t303 H Q
    · obtain ⟨s1, s2⟩ := ring_stay hW hX g g2 n
      have W2 := ticks_WF n σ hW
      have i1 : rgdN σ < ticksN σ n 0 := by rw [ticks_0]; exact hr
      have hb := (blk_in (i := rgdN σ) W2).resolve_left s2
      rw [ticks_0] at hb
      rw [if_neg (show ¬ nI (σ 2) = 2 from fun e => g2 ((m_eq (b := 2) (by omega) (by omega)).mp e)), k_waits H (rgdN σ) i1 rfl, Option.bind_some]
      dsimp only
      rw [if_neg (nI_no (by omega)), k_ring1 H, Option.bind_some]
      dsimp only
      have hz : rsz (ticksN σ n) < 2147483648 := by
        unfold rsz
        rw [if_neg s1]
        have := rz_lt (ticksN σ n) (rgdN (ticksN σ n))
        omega
      rw [if_neg (nI_no hz)]
      exact t303 H Q
theorem t227 (hW : WF σ) (hX : XF σ) (hn : n ≤ 60) (H : HS m (ticksN σ n) (σ :: h) sl la cn C G sv) (Q : HS m (ticksN σ n) (σ :: h) sl qla qcn qC qG qsv) : TR m σ h sl sv qsv (fM_ticks_227 us ch T qus qch qT (nI (untN thr 200 σ 0).1) (nI n) (nI (cntN σ 2)) (nI (rgdN σ)) la cn C G sv B qla qcn qC qG qsv qB) := by
  unfold fM_ticks_227
  by_cases g : (untN thr 200 σ 0).1 = 4294967295
  · rw [if_pos (show nI (untN thr 200 σ 0).1 = -1 from by rw [g]; decide)]
    exact t252 hW hX H Q
  · have ht := (unt_in thr σ).resolve_left g
    rw [if_neg (nI_no (by omega))]
    by_cases g2 : (untN thr 200 σ 0).1 < n
    · rw [if_pos ((m_lt (by omega) (by omega)).mpr g2)]
      exact t252 hW hX H Q
    · rw [if_neg (fun e => g2 ((m_lt (by omega) (by omega)).mp e))]
      obtain ⟨B', e3⟩ := k_through (us := us) (ch := ch) (T := T) (B := B) H
      rw [e3, Option.bind_some]
      dsimp only
      rw [thr_shift hW g (by omega), m_sub (by omega), if_pos rfl]
      exact t252 hW hX H Q
theorem t206 (hW : WF σ) (hX : XF σ) (hn : n ≤ 60) (H : HS m (ticksN σ n) (σ :: h) sl la cn C G sv) (Q : HS m (ticksN σ n) (σ :: h) sl qla qcn qC qG qsv) : TR m σ h sl sv qsv (fM_ticks_206 us ch T qus qch qT (nI (untN thr 200 σ 0).1) (nI (untN (gon k) 200 σ 0).1) (nI n) (nI (cntN σ 2)) (nI (rgdN σ)) (nI (bN (gon k (ticksN σ n)))) la cn C G sv B qla qcn qC qG qsv qB) := by
  have hi := gon_iff (σ := σ) (i := k) (n := n) (by omega)
  unfold fM_ticks_206 fM_ticks_223 fM_ticks_224
  by_cases g : (untN (gon k) 200 σ 0).1 = 4294967295
  · have e : gon k (ticksN σ n) = false := Bool.eq_false_iff.mpr (fun q => (hi.mp q).1 g)
    rw [if_pos (show nI (untN (gon k) 200 σ 0).1 = -1 from by rw [g]; decide), e, if_pos (show nI (bN false) = 0 from rfl)]
    exact t227 hW hX hn H Q
  · have ht := (unt_in (gon k) σ).resolve_left g
    rw [if_neg (nI_no (by omega))]
    by_cases g2 : n < (untN (gon k) 200 σ 0).1
    · have e : gon k (ticksN σ n) = false := Bool.eq_false_iff.mpr (fun q => by have := (hi.mp q).2; omega)
      rw [if_pos ((m_lt (by omega) (by omega)).mpr g2), e, if_pos (show nI (bN false) = 0 from rfl)]
      exact t227 hW hX hn H Q
    · have e : gon k (ticksN σ n) = true := hi.mpr ⟨g, by omega⟩
      rw [if_neg (fun e => g2 ((m_lt (by omega) (by omega)).mp e)), e, if_pos (show nI (bN true) = 1 from rfl)]
      exact t227 hW hX hn H Q
theorem t180 (hW : WF σ) (hX : XF σ) (hn : n ≤ 60) (hx : x < 2147483648) (hv : (σ 0 = 0 ∧ v5 = -1) ∨ (0 < σ 0 ∧ v5 = nI (untN (gon (x % σ 0)) 200 σ 0).1)) (H : HS m (ticksN σ n) (σ :: h) sl la cn C G sv) (Q : HS m (ticksN σ n) (σ :: h) sl qla qcn qC qG qsv) : TR m σ h sl sv qsv (fM_ticks_180 us ch T qus qch qT (nI x) (nI (σ 0)) (nI (untN thr 200 σ 0).1) v5 (nI n) (nI (cntN σ 2)) (nI (rgdN σ)) z0 z0 la cn C G sv B qla qcn qC qG qsv qB) := by
  have h0 := hW.1
  unfold fM_ticks_180
  rw [if_pos rfl]
  rcases hv with ⟨q0, rfl⟩ | ⟨q0, rfl⟩
  · rw [if_pos (show nI (σ 0) = 0 from by rw [q0]; rfl)]
    exact t227 hW hX hn H Q
  · have zn : ¬ nI (σ 0) = 0 := fun e => by have := (m_eq (b := 0) (by omega) (by omega)).mp e; omega
    have lt : x % σ 0 < σ 0 := Nat.mod_lt _ q0
    have lt2 : x % σ 0 < ticksN σ n 0 := by rw [ticks_0]; exact lt
    rw [if_neg zn, gz_in (decide_eq_true zn), md' (σ 0) (by omega) q0 (by omega), k_cat (z := 0) H (x % σ 0) 0 lt2 rfl rfl (by omega), Option.bind_some]
    dsimp only
    have hw := ((ticks_WF n σ hW).2.2.2.1 _ lt2).1
    have key := t206 (k := x % σ 0) (us := us) (ch := ch) (T := T) (B := B) (qus := qus) (qch := qch) (qT := qT) (qB := qB) hW hX hn H Q
    by_cases z : ticksN σ n (40 + 18 * (x % σ 0)) = 2
    · have e : gon (x % σ 0) (ticksN σ n) = true := by
        unfold gon
        rw [z]; rfl
      rw [e] at key
      rw [if_pos (show nI (ticksN σ n (40 + 18 * (x % σ 0) + 0)) = 2 from by rw [Nat.add_zero, z]; rfl)]
      exact key
    · have e : gon (x % σ 0) (ticksN σ n) = false := by
        unfold gon
        exact beq_eq_false_iff_ne.mpr z
      rw [e] at key
      rw [if_neg (show ¬ nI (ticksN σ n (40 + 18 * (x % σ 0) + 0)) = 2 from fun q => z ((m_eq (b := 2) (by omega) (by omega)).mp q))]
      exact key
theorem t162 (hW : WF σ) (hX : XF σ) (hn : n ≤ 60) (hx : x < 2147483648) (hv : (σ 0 = 0 ∧ v5 = -1) ∨ (0 < σ 0 ∧ v5 = nI (untN (gon (x % σ 0)) 200 σ 0).1)) (H : HS m (ticksN σ n) (σ :: h) sl la cn C G sv) (Q : HS m (ticksN σ n) (σ :: h) sl qla qcn qC qG qsv) : TR m σ h sl sv qsv (fM_ticks_162 us ch T qus qch qT (nI x) (nI (σ 0)) (nI (untN thr 200 σ 0).1) v5 (nI n) (nI (cntN σ 2)) (nI (rgdN σ)) (nI (bN (thr (ticksN σ n)))) la cn C G sv B qla qcn qC qG qsv qB) := by
  have hi := thr_iff (n := n) hW (by omega)
  unfold fM_ticks_162 fM_ticks_179
  by_cases g : (untN thr 200 σ 0).1 = 4294967295
  · have e : thr (ticksN σ n) = false := Bool.eq_false_iff.mpr (fun q => (hi.mp q).1 g)
    rw [if_pos (show nI (untN thr 200 σ 0).1 = -1 from by rw [g]; decide), e]
    exact t180 hW hX hn hx hv H Q
  · have ht := (unt_in thr σ).resolve_left g
    rw [if_neg (nI_no (by omega))]
    by_cases g2 : n < (untN thr 200 σ 0).1
    · have e : thr (ticksN σ n) = false := Bool.eq_false_iff.mpr (fun q => by have := (hi.mp q).2; omega)
      rw [if_pos ((m_lt (by omega) (by omega)).mpr g2), e]
      exact t180 hW hX hn hx hv H Q
    · have e : thr (ticksN σ n) = true := hi.mpr ⟨g, by omega⟩
      rw [if_neg (fun e => g2 ((m_lt (by omega) (by omega)).mp e)), e]
      exact t180 hW hX hn hx hv H Q
theorem t71 (hm : m ≤ 900000000) (hn1 : 1 ≤ n) (hn : n ≤ 60) (hx : x < 2147483648) (hv : (σ 0 = 0 ∧ v5 = -1) ∨ (0 < σ 0 ∧ v5 = nI (untN (gon (x % σ 0)) 200 σ 0).1)) (H : HS m σ h sl la cn C G sv) (Q : HS m σ h sl qla qcn qC qG qsv) : TR (m + 60) σ (h.take 13) sl sv qsv (fM_ticks_71 us ch T qus qch qT (nI x) (nI (σ 0)) (nI (untN thr 200 σ 0).1) v5 (nI n) la cn C G sv B qla qcn qC qG qsv qB) := by
  have hW := H.ok.1
  have hX := H.ok.2.1
  have W2 := ticks_WF n σ hW
  obtain ⟨a1, a2, a3, a4, e1, H1⟩ := k_ticks (us := us) (ch := ch) (T := T) (B := B) (z := 0) (w := 0) H (by omega) n hn1 hn rfl
  obtain ⟨b1, b2, b3, b4, e2, Q1⟩ := k_ticks (us := qus) (ch := qch) (T := qT) (B := qB) (z := 0) (w := 0) Q (by omega) n hn1 hn rfl
  have gm := gone_mono n σ
  have key := t162 (us := us) (ch := ch) (T := T) (B := B) (qus := qus) (qch := qch) (qT := qT) (qB := qB) hW hX hn hx hv H1 Q1
  have c0 := cntN_le10 (w := 0) W2
  have c1 := cntN_le10 (w := 1) W2
  unfold fM_ticks_71
  rw [k_about (y := 3) H 3 rfl (by omega), Option.bind_some]
  dsimp only
  rw [k_ring0 H, Option.bind_some]
  dsimp only
  rw [e1, Option.bind_some]
  dsimp only
  rw [e2, Option.bind_some]
  dsimp only
  rw [if_pos rfl, k_about (y := 3) H1 3 rfl (by omega), Option.bind_some]
  dsimp only
  have e3 : nI (abv (ticksN σ n) 3) = nI (abv σ 3) + nI (cntN (ticksN σ n) 2 - cntN σ 2) := by
    rw [m_add]
    show nI (cntN (ticksN σ n) 2) = nI (cntN σ 2 + (cntN (ticksN σ n) 2 - cntN σ 2))
    rw [Nat.add_sub_cancel' gm]
  rw [if_pos e3, k_about (y := 1) H1 1 rfl (by omega), Option.bind_some]
  dsimp only
  rw [k_about (y := 2) H1 2 rfl (by omega), Option.bind_some]
  dsimp only
  have e4 : nI (abv (ticksN σ n) 1) + nI (abv (ticksN σ n) 2) = nI (cntN (ticksN σ n) 0 + cntN (ticksN σ n) 1) := m_add _ _
  rw [e4]
  by_cases z : cntN (ticksN σ n) 0 + cntN (ticksN σ n) 1 = 0
  · have e : thr (ticksN σ n) = true := by
      unfold thr
      rw [z]; rfl
    rw [e] at key
    rw [if_pos (show nI (cntN (ticksN σ n) 0 + cntN (ticksN σ n) 1) = 0 from by rw [z]; rfl)]
    exact key
  · have e : thr (ticksN σ n) = false := by
      unfold thr
      exact beq_eq_false_iff_ne.mpr z
    rw [e] at key
    rw [if_neg (show ¬ nI (cntN (ticksN σ n) 0 + cntN (ticksN σ n) 1) = 0 from fun q => z ((m_eq (b := 0) (by omega) (by omega)).mp q))]
    exact key
theorem ticks_c (hm : m ≤ 900000000) (hx : x < 2147483648) (H : HS m σ h sl la cn C G sv) (Q : HS m σ h sl qla qcn qC qG qsv) : TR (m + 60) σ (h.take 13) sl sv qsv (fM_ticks la cn us ch C G sv T B qla qcn qus qch qC qG qsv qT qB (nI x)) := by
  have hW := H.ok.1
  have h0 := hW.1
  have d32 : nI x / 32 = nI (x / 32) := m_div (d := 32) (by omega) (by omega) (by omega)
  have e60 : nI (x / 32) - nI (x / 32) / 60 * 60 = nI (x / 32 % 60) := md' 60 (by omega) (by omega) (by omega)
  have a1 : (1 : Int32) + nI (x / 32 % 60) = nI (1 + x / 32 % 60) := m_add 1 _
  have l60 : x / 32 % 60 < 60 := Nat.mod_lt _ (by omega)
  obtain ⟨B1, e1⟩ := k_through (us := us) (ch := ch) (T := T) (B := B) H
  -- any count of ticks will do
  have go : ∀ (v5 : Int32) (B : Nat → Int32), ((σ 0 = 0 ∧ v5 = -1) ∨ (0 < σ 0 ∧ v5 = nI (untN (gon (x % σ 0)) 200 σ 0).1)) → TR (m + 60) σ (h.take 13) sl sv qsv (fM_ticks_34 us ch T qus qch qT (nI x) (nI (σ 0)) (nI (untN thr 200 σ 0).1) v5 la cn C G sv B qla qcn qC qG qsv qB) := by
    intro v5 B hv
    have other := t71 (us := us) (ch := ch) (T := T) (B := B) (qus := qus) (qch := qch) (qT := qT) (qB := qB) (n := 1 + x / 32 % 60) hm (by omega) (by omega) hx hv H Q
    unfold fM_ticks_34 fM_ticks_62
    rw [d32, e60, a1]
    rcases hv with ⟨q0, rfl⟩ | ⟨q0, rfl⟩
    · rw [if_pos (show (-1 : Int32) ≤ 0 from by decide)]
      exact other
    · generalize hg : (untN (gon (x % σ 0)) 200 σ 0).1 = g at other
      have lt := unt_in (gon (x % σ 0)) σ
      rw [hg] at lt
      by_cases z1 : nI g ≤ 0
      · rw [if_pos z1]; exact other
      · rw [if_neg z1]
        by_cases z2 : 60 < nI g
        · rw [if_pos z2]; exact other
        · rw [if_neg z2]
          split
          · have g1 : g ≤ 200 := by
              rcases lt with e | e
              · rw [e] at z1; exact absurd (show nI 4294967295 ≤ 0 from by decide) z1
              · exact e
            have g2 : 1 ≤ g := by
              by_cases q : g = 0
              · rw [q] at z1; exact absurd (show nI 0 ≤ 0 from by decide) z1
              · omega
            have g3 : g ≤ 60 := by
              by_cases q : g ≤ 60
              · exact q
              · exact absurd ((m_lt (a := 60) (by omega) (by omega)).mpr (by omega)) z2
            exact t71 hm g2 g3 hx (Or.inr ⟨q0, by rw [hg]⟩) H Q
          · exact other
  unfold fM_ticks
  rw [k_about (y := 0) H 0 rfl (by omega), Option.bind_some]
  dsimp only
  rw [e1, Option.bind_some]
  dsimp only
  rw [show abv σ 0 = σ 0 from rfl]
  by_cases z : σ 0 = 0
  · rw [if_pos (show nI (σ 0) = 0 from by rw [z]; rfl)]
    exact go (-1) B1 (Or.inl ⟨z, rfl⟩)
  · have zn : ¬ nI (σ 0) = 0 := fun e => z ((m_eq (b := 0) (by omega) (by omega)).mp e)
    have lt : x % σ 0 < σ 0 := Nat.mod_lt _ (by omega)
    obtain ⟨B2, e2⟩ := k_gone (us := us) (ch := ch) (T := T) (B := B1) (y := nI (x % σ 0)) (z := 0) (w := 0) H (by omega) (x % σ 0) lt rfl
    rw [if_neg zn, gz_in (decide_eq_true zn), md' (σ 0) (by omega) (by omega) (by omega), e2, Option.bind_some]
    exact go _ B2 (Or.inr ⟨by omega, rfl⟩)
end TKL
