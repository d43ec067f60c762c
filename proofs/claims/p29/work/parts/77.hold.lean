section HLE
variable {σ τ κ : Nat → Nat} {h : List (Nat → Nat)} {sl : Nat → Option (Nat → Nat)} {m n x a k p g i s : Nat} {la cn us : Int32} {ch C G sv T B IS : Nat → Int32} {v1 v2 v3 v4 v5 v6 v7 v8 v9 v10 z0 z1 : Int32} {kk : K9}
theorem h370 (H : HS m σ h sl la cn C G sv) (hi : i < σ 0) : fM_holds_370 kk us ch T v1 v2 v3 v4 v5 (nI i) (nI (σ (40 + 18 * i))) (nI (σ (40 + 18 * i + 1))) (nI (σ (40 + 18 * i + 2))) (nI (σ (40 + 18 * i + 3))) 1 la cn C G sv B IS = kk v1 v2 v3 v4 v5 1 (nI (i + 1)) la cn C G sv B IS := by
  have l9 := CW_lies (H.ok.1.2.2.2.1 i hi)
  unfold fM_holds_370
  exact h375 H hi (σ (40 + 18 * i + 1)) 0 12 (by omega) (by omega) (by omega)
theorem h342 (hm : m ≤ 1000000000) (H : HS m σ h sl la cn C G sv) (hi : i < σ 0) (hz : z1 = z0) : fM_holds_342 kk us ch T v1 v2 v3 v4 v5 (nI i) (nI (σ (40 + 18 * i))) (nI (σ (40 + 18 * i + 1))) (nI (σ (40 + 18 * i + 2))) (nI (σ (40 + 18 * i + 3))) z0 z1 la cn C G sv B IS = kk v1 v2 v3 v4 v5 1 (nI (i + 1)) la cn C G sv B IS := by
  have hw := H.ok.2.2.1 i hi
  have hb := H.ok.2.2.2.2
  unfold fM_holds_342
  rw [if_pos hz, k_cat (z := 4) H i 4 hi rfl rfl (by omega), Option.bind_some]
  dsimp only
  rw [k_about (y := 5) H 5 rfl (by omega), Option.bind_some]
  dsimp only
  rw [if_neg (show ¬ nI (abv σ 5) < nI (σ (40 + 18 * i + 4)) from fun e => by
    have e2 : nI (σ 1) < nI (σ (40 + 18 * i + 4)) := e
    have := (m_lt (by omega) (by omega)).mp e2
    omega)]
  exact h370 H hi
theorem h331 (hm : m ≤ 1000000000) (H : HS m σ h sl la cn C G sv) (hi : i < σ 0) : fM_holds_331 kk us ch T v1 v2 v3 v4 v5 (nI i) (nI (σ (40 + 18 * i))) (nI (σ (40 + 18 * i + 1))) (nI (σ (40 + 18 * i + 2))) (nI (σ (40 + 18 * i + 3))) (nI (bN (decide (σ (40 + 18 * i) = 2)))) la cn C G sv B IS = kk v1 v2 v3 v4 v5 1 (nI (i + 1)) la cn C G sv B IS := by
  have hc := (H.ok.1.2.2.2.1 i hi).1
  unfold fM_holds_331
  by_cases g : σ (40 + 18 * i) = 2
  · rw [if_pos (show nI (σ (40 + 18 * i)) = 2 from by rw [g]; rfl), decide_eq_true g]
    exact h342 hm H hi rfl
  · rw [if_neg (show ¬ nI (σ (40 + 18 * i)) = 2 from fun e => g ((m_eq (b := 2) (by omega) (by omega)).mp e)), decide_eq_false g]
    exact h342 hm H hi rfl
theorem h310 (hm : m ≤ 1000000000) (H : HS m σ h sl la cn C G sv) (hi : i < σ 0) (hz : z1 = z0) : fM_holds_310 kk us ch T v1 v2 v3 v4 v5 (nI i) (nI (σ (40 + 18 * i))) (nI (σ (40 + 18 * i + 1))) (nI (σ (40 + 18 * i + 2))) (nI (σ (40 + 18 * i + 3))) z0 z1 la cn C G sv B IS = kk v1 v2 v3 v4 v5 1 (nI (i + 1)) la cn C G sv B IS := by
  have x3 := (H.ok.2.1.1 i hi).2.2.1
  have hg := H.ok.2.2.2.1 i hi
  have hb := H.ok.2.2.2.2
  have key := h331 (kk := kk) (us := us) (ch := ch) (T := T) (B := B) (IS := IS) (v1 := v1) (v2 := v2) (v3 := v3) (v4 := v4) (v5 := v5) hm H hi
  unfold fM_holds_310
  rw [if_pos hz, k_cat (z := 5) H i 5 hi rfl rfl (by omega), Option.bind_some]
  dsimp only
  by_cases g : σ (40 + 18 * i) = 2
  · have := hg g
    rw [decide_eq_true g] at key
    rw [if_neg (nI_no (by omega))]
    exact key
  · have e5 : σ (40 + 18 * i + 5) = 4294967295 := by
      by_cases z : σ (40 + 18 * i + 5) = 4294967295
      · exact z
      · exact absurd (x3.mpr z) g
    rw [decide_eq_false g] at key
    rw [if_pos (show nI (σ (40 + 18 * i + 5)) = -1 from by rw [e5]; decide)]
    exact key
theorem h300 (hm : m ≤ 1000000000) (H : HS m σ h sl la cn C G sv) (hi : i < σ 0) : fM_holds_300 kk us ch T v1 v2 v3 v4 v5 (nI i) (nI (σ (40 + 18 * i))) (nI (σ (40 + 18 * i + 1))) (nI (σ (40 + 18 * i + 2))) (nI (σ (40 + 18 * i + 3))) (nI (bN (decide (σ (40 + 18 * i) = 1)))) la cn C G sv B IS = kk v1 v2 v3 v4 v5 1 (nI (i + 1)) la cn C G sv B IS := by
  have hc := H.ok.1.2.2.2.1 i hi
  have l9 := CW_lies hc
  unfold fM_holds_300
  by_cases g : σ (40 + 18 * i) = 1
  · have l1 := hc.2.2.2.2.2.2.2.1 g
    rw [if_neg (show ¬ nI (σ (40 + 18 * i + 1)) ≤ 0 from fun e => by have := (m_le (b := 0) (by omega) (by omega)).mp e; omega), decide_eq_true g]
    exact h310 hm H hi rfl
  · have l1 := hc.2.2.2.2.2.2.2.2.1 g
    rw [if_pos (show nI (σ (40 + 18 * i + 1)) ≤ 0 from by rw [l1]; decide), decide_eq_false g]
    exact h310 hm H hi rfl
theorem h286 (hm : m ≤ 1000000000) (H : HS m σ h sl la cn C G sv) (hi : i < σ 0) (hz : z1 = z0) : fM_holds_286 kk us ch T v1 v2 v3 v4 v5 (nI i) (nI (σ (40 + 18 * i))) (nI (σ (40 + 18 * i + 1))) (nI (σ (40 + 18 * i + 2))) (nI (σ (40 + 18 * i + 3))) z0 z1 la cn C G sv B IS = kk v1 v2 v3 v4 v5 1 (nI (i + 1)) la cn C G sv B IS := by
  have hc := (H.ok.1.2.2.2.1 i hi).1
  have key := h300 (kk := kk) (us := us) (ch := ch) (T := T) (B := B) (IS := IS) (v1 := v1) (v2 := v2) (v3 := v3) (v4 := v4) (v5 := v5) hm H hi
  unfold fM_holds_286
  rw [if_pos hz]
  by_cases g : σ (40 + 18 * i) = 1
  · rw [decide_eq_true g] at key
    rw [if_pos (show nI (σ (40 + 18 * i)) = 1 from by rw [g]; rfl)]
    exact key
  · rw [decide_eq_false g] at key
    rw [if_neg (show ¬ nI (σ (40 + 18 * i)) = 1 from fun e => g ((m_eq (b := 1) (by omega) (by omega)).mp e))]
    exact key
theorem h274 (hm : m ≤ 1000000000) (H : HS m σ h sl la cn C G sv) (hi : i < σ 0) : fM_holds_274 kk us ch T v1 v2 v3 v4 v5 (nI i) (nI (σ (40 + 18 * i))) (nI (σ (40 + 18 * i + 1))) (nI (σ (40 + 18 * i + 2))) (nI (σ (40 + 18 * i + 3))) (nI (σ (40 + 18 * i + 8))) (nI (bN (decide (σ (40 + 18 * i) = 2)))) la cn C G sv B IS = kk v1 v2 v3 v4 v5 1 (nI (i + 1)) la cn C G sv B IS := by
  obtain ⟨c1, c2, c3, c4, c5, c6, c7, c8, c9, c10, c11⟩ := H.ok.1.2.2.2.1 i hi
  obtain ⟨a1, a2, a3, a4, a5, a6, a7⟩ := H.ok.2.1.1 i hi
  unfold fM_holds_274
  by_cases g : σ (40 + 18 * i) = 2
  · have e : σ (40 + 18 * i + 3) = σ (40 + 18 * i + 8) := by
      have := a1 (by omega)
      have := c9 (by omega)
      have := c10 (by omega)
      omega
    rw [if_pos (by rw [e]), decide_eq_true g]
    exact h286 hm H hi rfl
  · have e : σ (40 + 18 * i + 3) ≠ σ (40 + 18 * i + 8) := by
      by_cases z3 : σ (40 + 18 * i) = 3
      · have := a2 z3; omega
      · by_cases z0 : σ (40 + 18 * i) = 0
        · have := a7 z0; omega
        · have := c8 (by omega)
          have := a1 z3
          omega
    rw [if_neg (fun q => e ((m_eq (by omega) (by omega)).mp q)), decide_eq_false g]
    exact h286 hm H hi rfl
theorem h263 (hm : m ≤ 1000000000) (H : HS m σ h sl la cn C G sv) (hi : i < σ 0) : fM_holds_263 kk us ch T v1 v2 v3 v4 v5 (nI i) (nI (σ (40 + 18 * i))) (nI (σ (40 + 18 * i + 1))) (nI (σ (40 + 18 * i + 2))) (nI (σ (40 + 18 * i + 3))) (nI (σ (40 + 18 * i + 8))) la cn C G sv B IS = kk v1 v2 v3 v4 v5 1 (nI (i + 1)) la cn C G sv B IS := by
  have hc := (H.ok.1.2.2.2.1 i hi).1
  have key := h274 (kk := kk) (us := us) (ch := ch) (T := T) (B := B) (IS := IS) (v1 := v1) (v2 := v2) (v3 := v3) (v4 := v4) (v5 := v5) hm H hi
  unfold fM_holds_263
  by_cases g : σ (40 + 18 * i) = 2
  · rw [decide_eq_true g] at key
    rw [if_pos (show nI (σ (40 + 18 * i)) = 2 from by rw [g]; rfl)]
    exact key
  · rw [decide_eq_false g] at key
    rw [if_neg (show ¬ nI (σ (40 + 18 * i)) = 2 from fun e => g ((m_eq (b := 2) (by omega) (by omega)).mp e))]
    exact key
theorem cnt_sum (σ : Nat → Nat) (w : Nat) : ∀ n i, sumN (fun j => bN (σ (40 + 18 * j) == w)) i + cnt σ w n i = sumN (fun j => bN (σ (40 + 18 * j) == w)) (i + n) := by
  intro n
  induction n with
  | zero => intro i; rfl
  | succ n ih =>
    intro i
    have := ih (i + 1)
    rw [cnt, show i + (n + 1) = i + 1 + n by omega, ← this, sumN]
    omega
theorem cnt_all (σ : Nat → Nat) (w : Nat) : cntN σ w = sumN (fun j => bN (σ (40 + 18 * j) == w)) (σ 0) := by
  have := cnt_sum σ w (σ 0) 0
  rw [Nat.zero_add] at this
  unfold cntN
  rw [← this]
  show _ = 0 + _
  rw [Nat.zero_add]
theorem h136 (hm : m ≤ 1000000000) (H : HS m σ h sl la cn C G sv) : ∀ d i n (IS : Nat → Int32), d = σ 0 - i → i ≤ σ 0 → d < n → (∀ w, w < 4 → IS w = nI (sumN (fun j => bN (σ (40 + 18 * j) == w)) i)) →
    ∃ B', fM_holds_136 us ch T n (nI (σ 0)) (nI (lieS σ)) (nI (shS σ 36 0)) (nI (sumN (fun j => σ (40 + 18 * j + 4)) i)) (nI (sumN (fun j => σ (40 + 18 * j + 1)) i)) 1 (nI i) la cn C G sv B IS = some (1, la, cn, C, G, sv, B') := by
  have hW := H.ok.1
  have h0 := hW.1
  intro d
  induction d with
  | zero =>
    intro i n IS hd hi hn hIS
    obtain ⟨n, rfl⟩ : ∃ q, n = q + 1 := ⟨n - 1, by omega⟩
    have ei : i = σ 0 := by omega
    subst ei
    rw [fM_holds_136, if_pos ((m_le (by omega) (by omega)).mpr (Nat.le_refl _)), ← H.ok.2.1.2.1]
    exact h687 hm H (fun w hw => by rw [cnt_all]; exact hIS w hw)
  | succ d ih =>
    intro i n IS hd hi hn hIS
    obtain ⟨n, rfl⟩ : ∃ q, n = q + 1 := ⟨n - 1, by omega⟩
    have hi1 : i < σ 0 := by omega
    obtain ⟨c1, c2, c3, c4, c5, c6, c7, c8, c9, c10, c11⟩ := hW.2.2.2.1 i hi1
    obtain ⟨a1, a2, a3, a4, a5, a6, a7⟩ := H.ok.2.1.1 i hi1
    have e4 : nI (sumN (fun j => σ (40 + 18 * j + 4)) i) + nI (σ (40 + 18 * i + 4)) = nI (sumN (fun j => σ (40 + 18 * j + 4)) (i + 1)) := m_add _ _
    have e1 : nI (sumN (fun j => σ (40 + 18 * j + 1)) i) + nI (σ (40 + 18 * i + 1)) = nI (sumN (fun j => σ (40 + 18 * j + 1)) (i + 1)) := m_add _ _
    have key := h263 (kk := fM_holds_136 us ch T n) (us := us) (ch := ch) (T := T) (B := B) (IS := upd IS (σ (40 + 18 * i)) (IS (σ (40 + 18 * i)) + 1)) (v1 := nI (σ 0)) (v2 := nI (lieS σ)) (v3 := nI (shS σ 36 0)) (v4 := nI (sumN (fun j => σ (40 + 18 * j + 4)) (i + 1))) (v5 := nI (sumN (fun j => σ (40 + 18 * j + 1)) (i + 1))) hm H hi1
    have fin := ih (i + 1) n (upd IS (σ (40 + 18 * i)) (IS (σ (40 + 18 * i)) + 1)) (by omega) (by omega) (by omega) (fun w hw => by
      rw [sumN]
      unfold upd
      by_cases z : w = σ (40 + 18 * i)
      · rw [if_pos z, ← z, hIS w hw, beq_self_eq_true, s1p]
        rfl
      · rw [if_neg z, hIS w hw, beq_eq_false_iff_ne.mpr (fun q => z q.symm)]
        rfl)
    rw [← key] at fin
    rw [fM_holds_136, if_neg (fun e => by have := (m_le (by omega) (by omega)).mp e; omega), if_neg (show ¬ (1 : Int32) = 0 from by decide), k_cat (z := 0) H i 0 hi1 rfl rfl (by omega), Option.bind_some]
    dsimp only
    rw [k_cat (z := 1) H i 1 hi1 rfl rfl (by omega), Option.bind_some]
    dsimp only
    rw [k_cat (z := 2) H i 2 hi1 rfl rfl (by omega), Option.bind_some]
    dsimp only
    rw [k_cat (z := 3) H i 3 hi1 rfl rfl (by omega), Option.bind_some]
    dsimp only
    rw [k_cat (z := 8) H i 8 hi1 rfl rfl (by omega), Option.bind_some]
    dsimp only
    rw [Nat.add_zero (40 + 18 * i), m_gd (show σ (40 + 18 * i) < 4 by omega) (by omega), m_gd (show σ (40 + 18 * i) < 4 by omega) (by omega), k_cat (z := 4) H i 4 hi1 rfl rfl (by omega), Option.bind_some]
    dsimp only
    rw [m_cl (show σ (40 + 18 * i) < 2147483648 by omega), e4, e1]
    by_cases z3 : σ (40 + 18 * i) = 3
    · have s0 : σ (40 + 18 * i + 1) + σ (40 + 18 * i + 2) = 0 := by
        have := c9 (by omega)
        have := c10 (by omega)
        omega
      rw [if_pos (show nI (σ (40 + 18 * i)) = 3 from by rw [z3]; rfl), m_add, if_pos (show nI (σ (40 + 18 * i + 1) + σ (40 + 18 * i + 2)) = 0 from by rw [s0]; rfl)]
      exact fin
    · rw [if_neg (show ¬ nI (σ (40 + 18 * i)) = 3 from fun e => z3 ((m_eq (b := 3) (by omega) (by omega)).mp e)), m_add, m_add, a1 z3, if_pos rfl]
      exact fin
theorem h35 (hm : m ≤ 1000000000) (H : HS m σ h sl la cn C G sv) : ∀ d k n b, d = 36 - k → k ≤ 36 → d < n → b + shS σ (36 - k) k = shS σ 36 0 →
    ∃ B', fM_holds_35 us ch T n (nI (σ 0)) (nI (sumN (fun k => bN (tk σ k != 4294967295)) k)) (nI b) 0 0 1 (nI k) la cn C G sv B = some (1, la, cn, C, G, sv, B') := by
  have hW := H.ok.1
  have hX := H.ok.2.1
  have h0 := hW.1
  intro d
  induction d with
  | zero =>
    intro k n b hd hk hn hb
    obtain ⟨n, rfl⟩ : ∃ q, n = q + 1 := ⟨n - 1, by omega⟩
    have ek : k = 36 := by omega
    subst ek
    have eb : b = shS σ 36 0 := by rw [← hb]; rfl
    rw [fM_holds_35, if_pos (show (36 : Int32) ≤ nI 36 from (m_le (a := 36) (by omega) (by omega)).mpr (Nat.le_refl _)), lie_sum hW, eb]
    unfold fM_holds_128
    exact h136 hm H (σ 0) 0 12 (fun _ => 0) (by omega) (by omega) (by omega) (fun w _ => rfl)
  | succ d ih =>
    intro k n b hd hk hn hb
    obtain ⟨n, rfl⟩ : ∃ q, n = q + 1 := ⟨n - 1, by omega⟩
    have hk1 : k < 36 := by omega
    have hs := hW.2.2.1 k hk1
    rw [show 36 - k = (36 - (k + 1)) + 1 by omega, shS] at hb
    have fin := ih (k + 1) n (b + σ (4 + k)) (by omega) (by omega) (by omega) (by omega)
    rw [sumN] at fin
    rw [fM_holds_35, if_neg (show ¬ (36 : Int32) ≤ nI k from fun e => by have := (m_le (a := 36) (by omega) (by omega)).mp e; omega), if_neg (show ¬ (1 : Int32) = 0 from by decide), k_room0 H k hk1 rfl, Option.bind_some]
    dsimp only
    unfold fM_holds_70 fM_holds_115 fM_holds_120
    rw [s1p]
    rcases tk_cases σ k with ⟨t1, _⟩ | ⟨t1, t2⟩
    · rw [t1, show ((4294967295 : Nat) != 4294967295) = false from by decide] at fin
      rw [t1, if_pos (show nI 4294967295 = -1 from by decide), k_room1 H k hk1 rfl, Option.bind_some]
      dsimp only
      rw [if_pos (show nI 4294967295 = -1 from by decide), m_add, show nI (sumN (fun k => bN (tk σ k != 4294967295)) k) + 0 = nI (sumN (fun k => bN (tk σ k != 4294967295)) k + bN false) from m_add _ 0]
      exact fin
    · rw [show (tk σ k != 4294967295) = true from bne_iff_ne.mpr (by omega)] at fin
      obtain ⟨p, p1, p2⟩ := occ_iff.mp t2
      have ew : σ (40 + 18 * tk σ k) = 1 := by
        have := (hW.2.2.2.1 _ t1).2.2.2.2.2.2.2.2.1
        by_cases z : σ (40 + 18 * tk σ k) = 1
        · exact z
        · have := this z; omega
      have e0 : σ (4 + k) = 0 := by
        have := hX.2.2 _ p t1 p1
        rw [p2] at this
        exact this
      rw [if_neg (nI_no (by omega)), k_room1 H k hk1 rfl, Option.bind_some]
      dsimp only
      rw [if_neg (nI_no (by omega)), k_cat (z := 0) H (tk σ k) 0 t1 rfl rfl (by omega), Option.bind_some]
      dsimp only
      rw [Nat.add_zero (40 + 18 * tk σ k), ew, if_pos (show nI 1 = 1 from rfl), k_room1 H k hk1 rfl, Option.bind_some]
      dsimp only
      rw [if_pos (show nI (σ (4 + k)) = 0 from by rw [e0]; rfl), m_add, show nI (sumN (fun k => bN (tk σ k != 4294967295)) k) + 1 = nI (sumN (fun k => bN (tk σ k != 4294967295)) k + bN true) from m_add _ 1]
      exact fin
theorem holds_c (hm : m ≤ 1000000000) (H : HS m σ h sl la cn C G sv) : ∃ B', fM_holds la cn us ch C G sv T B = some (1, la, cn, C, G, sv, B') := by
  have h0 := H.ok.1.1
  unfold fM_holds fM_holds_30
  rw [k_about (y := 0) H 0 rfl (by omega), Option.bind_some]
  dsimp only
  rw [show abv σ 0 = σ 0 from rfl, if_neg (show ¬ (10 : Int32) < nI (σ 0) from fun e => by have := (m_lt (a := 10) (by omega) (by omega)).mp e; omega)]
  exact h35 hm H 36 0 40 0 (by omega) (by omega) (by omega) (by show 0 + shS σ 36 0 = _; rw [Nat.zero_add])
end HLE
