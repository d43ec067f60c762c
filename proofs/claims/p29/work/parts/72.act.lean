/-! ONE THING DONE: the answer, and what stands behind it, depend on the state alone -/
section ACS
variable {σ τ κ : Nat → Nat} {h : List (Nat → Nat)} {sl : Nat → Option (Nat → Nat)} {m n x a k : Nat} {la cn us : Int32} {ch C G sv T B : Nat → Int32}
theorem bind_id7 {A1 A2 A3 A4 A5 A6 A7 : Type} (o : Option (A1 × A2 × A3 × A4 × A5 × A6 × A7)) : (o.bind fun (r, a, b, c, d, e, f) => some (r, a, b, c, d, e, f)) = o := by
  cases o <;> rfl
theorem act_eq (H : HS m σ h sl la cn C G sv) (hm : m ≤ 1000000000) (hx : x < 2147483648) : fM_act la cn us ch C G sv T B (nI x) =
    if x % 16 ≤ 3 then fM_call la cn us ch C G sv T B 9 (nI (x / 16 % 36)) (nI (x / 16 / 36 % 36)) (nI (1 + x / 16 / 1296 % 9))
    else if x % 16 ≤ 5 then (fM_shuts la cn us ch C G sv T B (nI (x / 16 % 36)) (nI (bN (decide (0 < x / 16 / 36 % 3))))).bind fun (r, a, b, c, d) => some (r, a, b, c, d, sv, B)
    else if x % 16 = 6 then fM_call la cn us ch C G sv T B 11 (nI (x / 16 % 3)) 0 0
    else if x % 16 = 7 then fM_call la cn us ch C G sv T B 12 (nI (if σ 0 = 0 then 0 else x / 16 % σ 0)) 0 0
    else if x % 16 = 8 then (if σ 1 < 2 then some (-1, la, cn, C, G, sv, B) else fM_call la cn us ch C G sv T B 13 0 0 0)
    else if x % 16 = 9 then (if x / 16 % 2 = 0 then fM_call la cn us ch C G sv T B 16 (nI (x / 16 / 2 % 2)) 0 0 else fM_call la cn us ch C G sv T B 17 (nI (x / 16 / 2 % 2)) 0 0)
    else fM_call la cn us ch C G sv T B 10 (nI (1 + x / 16 % 6)) 0 0 := by
  have h0 := H.ok.1.1
  have e16 : nI x - nI x / 16 * 16 = nI (x % 16) := md' 16 (by omega) (by omega) (by omega)
  have eY : nI x / 16 = nI (x / 16) := m_div (d := 16) (by omega) (by omega) (by omega)
  generalize hY : x / 16 = Y at *
  have lY : Y < 2147483648 := by omega
  have f36 : nI Y - nI Y / 36 * 36 = nI (Y % 36) := md' 36 (by omega) (by omega) (by omega)
  have f3 : nI Y - nI Y / 3 * 3 = nI (Y % 3) := md' 3 (by omega) (by omega) (by omega)
  have f2 : nI Y - nI Y / 2 * 2 = nI (Y % 2) := md' 2 (by omega) (by omega) (by omega)
  have f6 : nI Y - nI Y / 6 * 6 = nI (Y % 6) := md' 6 (by omega) (by omega) (by omega)
  have d36 : nI Y / 36 = nI (Y / 36) := m_div (d := 36) (by omega) (by omega) (by omega)
  have d1296 : nI Y / 1296 = nI (Y / 1296) := m_div (d := 1296) (by omega) (by omega) (by omega)
  have d2 : nI Y / 2 = nI (Y / 2) := m_div (d := 2) (by omega) (by omega) (by omega)
  have g36 : nI (Y / 36) - nI (Y / 36) / 36 * 36 = nI (Y / 36 % 36) := md' 36 (by omega) (by omega) (by omega)
  have g3 : nI (Y / 36) - nI (Y / 36) / 3 * 3 = nI (Y / 36 % 3) := md' 3 (by omega) (by omega) (by omega)
  have g9 : nI (Y / 1296) - nI (Y / 1296) / 9 * 9 = nI (Y / 1296 % 9) := md' 9 (by omega) (by omega) (by omega)
  have g2 : nI (Y / 2) - nI (Y / 2) / 2 * 2 = nI (Y / 2 % 2) := md' 2 (by omega) (by omega) (by omega)
  have a1 : (1 : Int32) + nI (Y / 1296 % 9) = nI (1 + Y / 1296 % 9) := m_add 1 _
  have a6 : (1 : Int32) + nI (Y % 6) = nI (1 + Y % 6) := m_add 1 _
  have l16 : x % 16 < 16 := Nat.mod_lt _ (by omega)
  have hc : ∀ c : Nat, c < 16 → (nI (x % 16) = nI c ↔ x % 16 = c) := fun c hc => m_eq (by omega) (by omega)
  unfold fM_act fM_act_119 fM_act_149
  rw [k_about (y := 0) H 0 rfl (by omega), Option.bind_some]
  dsimp only
  rw [e16, eY, f36, f3, f2, f6, d36, d1296, d2, g36, g3, g9, g2, a1, a6, show abv σ 0 = σ 0 from rfl]
  simp only [bind_id7]
  generalize hr : x % 16 = r at *
  by_cases q0 : r = 0
  · rw [if_pos (show nI r = 0 from by rw [q0]; rfl), if_pos (show r ≤ 3 by omega)]
  rw [if_neg (show ¬ nI r = 0 from fun e => q0 ((hc 0 (by omega)).mp e))]
  by_cases q1 : r = 1
  · rw [if_pos (show nI r = 1 from by rw [q1]; rfl), if_pos (show r ≤ 3 by omega)]
  rw [if_neg (show ¬ nI r = 1 from fun e => q1 ((hc 1 (by omega)).mp e))]
  by_cases q2 : r = 2
  · rw [if_pos (show nI r = 2 from by rw [q2]; rfl), if_pos (show r ≤ 3 by omega)]
  rw [if_neg (show ¬ nI r = 2 from fun e => q2 ((hc 2 (by omega)).mp e))]
  by_cases q3 : r = 3
  · rw [if_pos (show nI r = 3 from by rw [q3]; rfl), if_pos (show r ≤ 3 by omega)]
  rw [if_neg (show ¬ nI r = 3 from fun e => q3 ((hc 3 (by omega)).mp e)), if_neg (show ¬ r ≤ 3 by omega)]
  have l3 : Y / 36 % 3 < 3 := Nat.mod_lt _ (by omega)
  by_cases q45 : r ≤ 5
  · rw [if_pos q45]
    have sh : (if nI (Y / 36 % 3) ≤ 0 then (fM_shuts la cn us ch C G sv T B (nI (Y % 36)) 0).bind fun (r_2, la_3, cn_4, C_5, G_6) => some (r_2, la_3, cn_4, C_5, G_6, sv, B) else (fM_shuts la cn us ch C G sv T B (nI (Y % 36)) 1).bind fun (r_2, la_3, cn_4, C_5, G_6) => some (r_2, la_3, cn_4, C_5, G_6, sv, B)) = (fM_shuts la cn us ch C G sv T B (nI (Y % 36)) (nI (bN (decide (0 < Y / 36 % 3))))).bind fun (r, a, b, c, d) => some (r, a, b, c, d, sv, B) := by
      by_cases z : Y / 36 % 3 = 0
      · rw [if_pos (show nI (Y / 36 % 3) ≤ 0 from (m_le (b := 0) (by omega) (by omega)).mpr (by omega)), decide_eq_false (show ¬ 0 < Y / 36 % 3 by omega), show nI (bN false) = 0 from rfl]
      · rw [if_neg (show ¬ nI (Y / 36 % 3) ≤ 0 from fun e => by have := (m_le (b := 0) (by omega) (by omega)).mp e; omega), decide_eq_true (show 0 < Y / 36 % 3 by omega), show nI (bN true) = 1 from rfl]
    by_cases q4 : r = 4
    · rw [if_pos (show nI r = 4 from by rw [q4]; rfl)]
      exact sh
    · rw [if_neg (show ¬ nI r = 4 from fun e => q4 ((hc 4 (by omega)).mp e)), if_pos (show nI r = 5 from by rw [show r = 5 by omega]; rfl)]
      exact sh
  rw [if_neg q45, if_neg (show ¬ nI r = 4 from fun e => by have := (hc 4 (by omega)).mp e; omega), if_neg (show ¬ nI r = 5 from fun e => by have := (hc 5 (by omega)).mp e; omega)]
  by_cases q6 : r = 6
  · rw [if_pos (show nI r = 6 from by rw [q6]; rfl), if_pos q6]
  rw [if_neg (show ¬ nI r = 6 from fun e => q6 ((hc 6 (by omega)).mp e)), if_neg q6]
  by_cases q7 : r = 7
  · rw [if_pos (show nI r = 7 from by rw [q7]; rfl), if_pos q7]
    by_cases z : σ 0 = 0
    · rw [if_pos (show nI (σ 0) = 0 from by rw [z]; rfl), if_pos z, show (0 : Int32) = nI 0 from rfl]
    · have zn : ¬ nI (σ 0) = 0 := fun e => z ((m_eq (b := 0) (by omega) (by omega)).mp e)
      rw [if_neg zn, if_neg z, gz_in (decide_eq_true zn), md' (σ 0) (by omega) (by omega) (by omega)]
  rw [if_neg (show ¬ nI r = 7 from fun e => q7 ((hc 7 (by omega)).mp e)), if_neg q7]
  by_cases q8 : r = 8
  · rw [if_pos (show nI r = 8 from by rw [q8]; rfl), if_pos q8, k_about (y := 5) H 5 rfl (by omega), Option.bind_some]
    dsimp only
    have e5 : abv σ 5 = σ 1 := rfl
    rw [e5]
    have hb := H.ok.2.2.2.2
    by_cases z : σ 1 < 2
    · rw [if_pos z, if_neg (show ¬ (2 : Int32) ≤ nI (σ 1) from fun e => by have := (m_le (a := 2) (by omega) (by omega)).mp e; omega)]
    · rw [if_neg z]
      by_cases big : σ 1 < 2147483648
      · rw [if_pos (show (2 : Int32) ≤ nI (σ 1) from (m_le (a := 2) (by omega) (by omega)).mpr (by omega))]
      · exact absurd big (by omega)
  rw [if_neg (show ¬ nI r = 8 from fun e => q8 ((hc 8 (by omega)).mp e)), if_neg q8]
  by_cases q9 : r = 9
  · rw [if_pos (show nI r = 9 from by rw [q9]; rfl), if_pos q9]
    have l2 : Y % 2 < 2 := Nat.mod_lt _ (by omega)
    by_cases z : Y % 2 = 0
    · rw [if_pos (show nI (Y % 2) = 0 from by rw [z]; rfl), if_pos z]
    · rw [if_neg (show ¬ nI (Y % 2) = 0 from fun e => z ((m_eq (b := 0) (by omega) (by omega)).mp e)), if_neg z]
  rw [if_neg (show ¬ nI r = 9 from fun e => q9 ((hc 9 (by omega)).mp e)), if_neg q9]
/-- what one thing done does -/
def ACT (m : Nat) (σ : Nat → Nat) (h : List (Nat → Nat)) (sl : Nat → Option (Nat → Nat)) (x : Nat) (r : Int32) (σ' : Nat → Nat) (h' : List (Nat → Nat)) (sl' : Nat → Option (Nat → Nat)) : Prop :=
  ∀ (la cn us : Int32) (ch C G sv T B : Nat → Int32), HS m σ h sl la cn C G sv → ∃ la' cn' C' G' sv' B', fM_act la cn us ch C G sv T B (nI x) = some (r, la', cn', C', G', sv', B') ∧ HS (m + 60) σ' h' sl' la' cn' C' G' sv'
theorem act_c (hW : WF σ) (hm : m ≤ 1000000000) (hx : x < 2147483648) : ∃ r σ' h' sl', ACT m σ h sl x r σ' h' sl' := by
  have h0 := hW.1
  have l36 : x / 16 % 36 < 36 := Nat.mod_lt _ (by omega)
  by_cases q3 : x % 16 ≤ 3
  · have m36 : x / 16 / 36 % 36 < 36 := Nat.mod_lt _ (by omega)
    have m9 : x / 16 / 1296 % 9 < 9 := Nat.mod_lt _ (by omega)
    by_cases z : σ 0 < 10
    · refine ⟨nI (σ 0), hatN σ (x / 16 % 36) (x / 16 / 36 % 36) (1 + x / 16 / 1296 % 9), σ :: h.take 13, sl, fun la cn us ch C G sv T B H => ?_⟩
      obtain ⟨a1, a2, a3, a4, e, H2⟩ := k_hatch (us := us) (ch := ch) (T := T) (B := B) H (x / 16 % 36) (x / 16 / 36 % 36) (1 + x / 16 / 1296 % 9) l36 m36 (by omega) (by omega) z rfl rfl rfl
      exact ⟨a1, a2, a3, a4, sv, B, by rw [act_eq H hm hx, if_pos q3, e], H2.mono (by omega)⟩
    · refine ⟨-9999003, σ, h, sl, fun la cn us ch C G sv T B H => ?_⟩
      exact ⟨la, cn, C, G, sv, B, by rw [act_eq H hm hx, if_pos q3, k_hatch_full H (x / 16 % 36) (x / 16 / 36 % 36) (1 + x / 16 / 1296 % 9) l36 m36 (by omega) (by omega) (by omega) rfl rfl rfl], H.mono (by omega)⟩
  by_cases q5 : x % 16 ≤ 5
  · by_cases z : decide (0 < x / 16 / 36 % 3) = false ∨ tk σ (x / 16 % 36) = 4294967295
    · refine ⟨nI (shS (upN σ (4 + x / 16 % 36) (bN (decide (0 < x / 16 / 36 % 3)))) 36 0), upN σ (4 + x / 16 % 36) (bN (decide (0 < x / 16 / 36 % 3))), σ :: h.take 13, sl, fun la cn us ch C G sv T B H => ?_⟩
      obtain ⟨a1, a2, a3, a4, e, H2⟩ := k_shut (us := us) (ch := ch) (T := T) (B := B) H (x / 16 % 36) l36 (decide (0 < x / 16 / 36 % 3)) z rfl rfl
      exact ⟨a1, a2, a3, a4, sv, B, by rw [act_eq H hm hx, if_neg q3, if_pos q5, e]; rfl, H2.mono (by omega)⟩
    · refine ⟨-9999003, σ, h, sl, fun la cn us ch C G sv T B H => ?_⟩
      have zt : decide (0 < x / 16 / 36 % 3) = true := by
        cases q : decide (0 < x / 16 / 36 % 3)
        · exact absurd (Or.inl q) z
        · rfl
      exact ⟨la, cn, C, G, sv, B, by rw [act_eq H hm hx, if_neg q3, if_pos q5, k_shut_o H (x / 16 % 36) l36 (fun e => z (Or.inr e)) rfl (by rw [zt]; rfl)]; rfl, H.mono (by omega)⟩
  by_cases q6 : x % 16 = 6
  · have m3 : x / 16 % 3 < 3 := Nat.mod_lt _ (by omega)
    refine ⟨nI (σ 2), upN σ 2 (x / 16 % 3), σ :: h.take 13, sl, fun la cn us ch C G sv T B H => ?_⟩
    obtain ⟨a1, a2, a3, a4, e, H2⟩ := k_rule (us := us) (ch := ch) (T := T) (B := B) (z := 0) (w := 0) H (x / 16 % 3) (by omega) rfl
    exact ⟨a1, a2, a3, a4, sv, B, by rw [act_eq H hm hx, if_neg q3, if_neg q5, if_pos q6, e], H2.mono (by omega)⟩
  by_cases q7 : x % 16 = 7
  · by_cases z0 : σ 0 = 0
    · refine ⟨-9999001, σ, h, sl, fun la cn us ch C G sv T B H => ?_⟩
      exact ⟨la, cn, C, G, sv, B, by rw [act_eq H hm hx, if_neg q3, if_neg q5, if_neg q6, if_pos q7, if_pos z0, k_pull_f H (fun n hn => by omega)], H.mono (by omega)⟩
    · have lt : x / 16 % σ 0 < σ 0 := Nat.mod_lt _ (by omega)
      by_cases z : σ (40 + 18 * (x / 16 % σ 0)) ≤ 1
      · refine ⟨nI (σ (40 + 18 * (x / 16 % σ 0) + 1)), pulN σ (x / 16 % σ 0), σ :: h.take 13, sl, fun la cn us ch C G sv T B H => ?_⟩
        obtain ⟨a1, a2, a3, a4, e, H2⟩ := k_pull (us := us) (ch := ch) (T := T) (B := B) (z := 0) (w := 0) H (x / 16 % σ 0) lt z rfl
        exact ⟨a1, a2, a3, a4, sv, B, by rw [act_eq H hm hx, if_neg q3, if_neg q5, if_neg q6, if_pos q7, if_neg z0, e], H2.mono (by omega)⟩
      · refine ⟨-9999003, σ, h, sl, fun la cn us ch C G sv T B H => ?_⟩
        exact ⟨la, cn, C, G, sv, B, by rw [act_eq H hm hx, if_neg q3, if_neg q5, if_neg q6, if_pos q7, if_neg z0, k_pull_o H (x / 16 % σ 0) lt (by omega) rfl], H.mono (by omega)⟩
  by_cases q8 : x % 16 = 8
  · by_cases z : σ 1 < 2
    · refine ⟨-1, σ, h, sl, fun la cn us ch C G sv T B H => ?_⟩
      exact ⟨la, cn, C, G, sv, B, by rw [act_eq H hm hx, if_neg q3, if_neg q5, if_neg q6, if_neg q7, if_pos q8, if_pos z], H.mono (by omega)⟩
    · cases h with
      | nil =>
        refine ⟨-9999003, σ, [], sl, fun la cn us ch C G sv T B H => ?_⟩
        exact ⟨la, cn, C, G, sv, B, by rw [act_eq H hm hx, if_neg q3, if_neg q5, if_neg q6, if_neg q7, if_pos q8, if_neg z, k_undo_f H], H.mono (by omega)⟩
      | cons τ h =>
        refine ⟨nI h.length, τ, h, sl, fun la cn us ch C G sv T B H => ?_⟩
        obtain ⟨a1, a2, a3, a4, e, H2⟩ := k_undo (us := us) (ch := ch) (T := T) (B := B) (y := 0) (z := 0) (w := 0) H
        exact ⟨a1, a2, a3, a4, sv, B, by rw [act_eq H hm hx, if_neg q3, if_neg q5, if_neg q6, if_neg q7, if_pos q8, if_neg z, e], H2.mono (by omega)⟩
  by_cases q9 : x % 16 = 9
  · have l2 : x / 16 / 2 % 2 < 2 := Nat.mod_lt _ (by omega)
    by_cases z : x / 16 % 2 = 0
    · refine ⟨nI (σ 1), σ, h, slU sl (x / 16 / 2 % 2) σ, fun la cn us ch C G sv T B H => ?_⟩
      obtain ⟨G', sv', e, H2⟩ := k_keep (us := us) (ch := ch) (T := T) (B := B) (z := 0) (w := 0) H (x / 16 / 2 % 2) l2 rfl
      exact ⟨la, cn, C, G', sv', B, by rw [act_eq H hm hx, if_neg q3, if_neg q5, if_neg q6, if_neg q7, if_neg q8, if_pos q9, if_pos z, e], H2.mono (by omega)⟩
    · cases hq : sl (x / 16 / 2 % 2) with
      | none =>
        refine ⟨-9999003, σ, h, sl, fun la cn us ch C G sv T B H => ?_⟩
        exact ⟨la, cn, C, G, sv, B, by rw [act_eq H hm hx, if_neg q3, if_neg q5, if_neg q6, if_neg q7, if_neg q8, if_pos q9, if_neg z, k_back_o H (x / 16 / 2 % 2) l2 hq rfl], H.mono (by omega)⟩
      | some τ =>
        refine ⟨nI (τ 1), τ, [], sl, fun la cn us ch C G sv T B H => ?_⟩
        obtain ⟨a1, a2, a3, a4, e, H2⟩ := k_back (us := us) (ch := ch) (T := T) (B := B) (z := 0) (w := 0) H (x / 16 / 2 % 2) l2 hq rfl
        exact ⟨a1, a2, a3, a4, sv, B, by rw [act_eq H hm hx, if_neg q3, if_neg q5, if_neg q6, if_neg q7, if_neg q8, if_pos q9, if_neg z, e], H2.mono (by omega)⟩
  · have m6 : x / 16 % 6 < 6 := Nat.mod_lt _ (by omega)
    refine ⟨nI (cntN (ticksN σ (1 + x / 16 % 6)) 2 - cntN σ 2), ticksN σ (1 + x / 16 % 6), σ :: h.take 13, sl, fun la cn us ch C G sv T B H => ?_⟩
    obtain ⟨a1, a2, a3, a4, e, H2⟩ := k_ticks (us := us) (ch := ch) (T := T) (B := B) (z := 0) (w := 0) H hm (1 + x / 16 % 6) (by omega) (by omega) rfl
    exact ⟨a1, a2, a3, a4, sv, B, by rw [act_eq H hm hx, if_neg q3, if_neg q5, if_neg q6, if_neg q7, if_neg q8, if_neg q9, e], H2⟩
end ACS
