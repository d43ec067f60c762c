/-! TWO HOUSES of one state answer alike -/
section ALS
variable {σ τ κ : Nat → Nat} {h : List (Nat → Nat)} {sl : Nat → Option (Nat → Nat)} {m n x a k p : Nat} {la cn us qla qcn qus : Int32} {ch C G sv T B qch qC qG qsv qT qB : Nat → Int32}
noncomputable def simR (σ : Nat → Nat) (p : Nat) (z : Int64) : Int32 := match fX4_simulate_45 (E σ) (nI p) 5000 z (nI 0) 0 (E σ) with
  | some (r, _, _) => r
  | none => 0
theorem sim_c (H : HS m σ h sl la cn C G sv) (hp1 : 1 ≤ p) (hp : p ≤ 60) (z : Int64) : ∃ T', fM_doSimulate la cn us ch C G sv T B z (nI p) = some (simR σ p z, T') := by
  obtain ⟨κ, rfl, hO, -⟩ := H.here
  obtain ⟨δ, -, rfl⟩ := E_sur T
  obtain ⟨κ1, c1, c2⟩ := copy_c κ δ
  have hO1 := hO.congr (κ' := κ1) (σ' := σ) c2 (fun _ _ => rfl)
  obtain ⟨r, T', T2, e1, e2⟩ := sim_loop (la := la) (cn := cn) (us := us) (ch := ch) (G := G) (sv := sv) (B := B) (rf := 0) (γ := κ) (ν := σ) hp hO.1.2.2.2.1 p 0 (by omega) (by omega) 5000 5000 z κ1 σ (by omega) (by omega) hO1.1 hO1.2.1
  have er : simR σ p z = r := by
    unfold simR
    rw [e2]
  refine ⟨T', ?_⟩
  have e3 : fX3_simulate_39 la cn us ch (E κ) G sv B (nI p) 5000 z 0 (E κ1) = some (.inr (r, T')) := e1
  unfold fM_doSimulate fX3_simulate
  rw [if_neg (show ¬ nI p < 1 from fun e => by have := (m_lt (b := 1) (by omega) (by omega)).mp e; omega), if_pos (show nI p ≤ 60 from (m_le (b := 60) (by omega) (by omega)).mpr hp), c1, Option.bind_some, e3, Option.bind_some, er]
theorem q_cat (m : Nat) (σ : Nat → Nat) (h : List (Nat → Nat)) (sl : Nat → Option (Nat → Nat)) (k x : Nat) (hk : k < 10) : ∃ r : Int32, ∀ (la cn us : Int32) (ch C G sv T B : Nat → Int32), HS m σ h sl la cn C G sv → fM_call la cn us ch C G sv T B 3 (nI k) (nI (x % 9)) 0 = some (r, la, cn, C, G, sv, B) := by
  have l9 : x % 9 < 9 := Nat.mod_lt _ (by omega)
  by_cases g : k < σ 0
  · exact ⟨_, fun la cn us ch C G sv T B H => k_cat H k (x % 9) g rfl rfl (by omega)⟩
  · exact ⟨_, fun la cn us ch C G sv T B H => k_cat_f H (fun n hn e => by have := H.ok.1.1; have := (m_eq (by omega) (by omega)).mp e; omega)⟩
theorem q_lies (m : Nat) (σ : Nat → Nat) (h : List (Nat → Nat)) (sl : Nat → Option (Nat → Nat)) (k x : Nat) (hk : k < 10) : ∃ r : Int32, ∀ (la cn us : Int32) (ch C G sv T B : Nat → Int32), HS m σ h sl la cn C G sv → fM_call la cn us ch C G sv T B 4 (nI k) (nI (x % 4)) 0 = some (r, la, cn, C, G, sv, B) := by
  have l4 : x % 4 < 4 := Nat.mod_lt _ (by omega)
  by_cases g : k < σ 0
  · by_cases g2 : x % 4 < σ (40 + 18 * k + 1)
    · exact ⟨_, fun la cn us ch C G sv T B H => k_lies H k (x % 4) g rfl rfl g2⟩
    · exact ⟨_, fun la cn us ch C G sv T B H => k_lies_o H k (x % 4) g rfl rfl (by omega) (by omega)⟩
  · exact ⟨_, fun la cn us ch C G sv T B H => k_lies_f H (fun n hn e => by have := H.ok.1.1; have := (m_eq (by omega) (by omega)).mp e; omega)⟩
theorem q_waits (m : Nat) (σ : Nat → Nat) (h : List (Nat → Nat)) (sl : Nat → Option (Nat → Nat)) (k : Nat) (hk : k < 10) : ∃ r : Int32, ∀ (la cn us : Int32) (ch C G sv T B : Nat → Int32), HS m σ h sl la cn C G sv → fM_call la cn us ch C G sv T B 7 (nI k) 0 0 = some (r, la, cn, C, G, sv, B) := by
  by_cases g : k < σ 0
  · exact ⟨_, fun la cn us ch C G sv T B H => k_waits H k g rfl⟩
  · exact ⟨_, fun la cn us ch C G sv T B H => k_waits_f H (fun n hn e => by have := H.ok.1.1; have := (m_eq (by omega) (by omega)).mp e; omega)⟩
theorem q_room (m : Nat) (σ : Nat → Nat) (h : List (Nat → Nat)) (sl : Nat → Option (Nat → Nat)) (k x : Nat) (hk : k < 36) : ∃ r : Int32, ∀ (la cn us : Int32) (ch C G sv T B : Nat → Int32), HS m σ h sl la cn C G sv → fM_call la cn us ch C G sv T B 5 (nI k) (nI (x % 2)) 0 = some (r, la, cn, C, G, sv, B) := by
  by_cases g : x % 2 = 0
  · rw [g]
    exact ⟨_, fun la cn us ch C G sv T B H => k_room0 H k hk rfl⟩
  · rw [show x % 2 = 1 by omega]
    exact ⟨_, fun la cn us ch C G sv T B H => k_room1 H k hk rfl⟩
theorem alike47 (H : HS m σ h sl la cn C G sv) (Q : HS m σ h sl qla qcn qC qG qsv) (hx : x < 2147483648) : ∀ d k n, d = 10 - k → k ≤ 10 → d < n → fM_alike_47 us ch qus qch (nI x) n 1 (nI k) la cn C G sv T B qla qcn qC qG qsv qT qB = some (1, la, cn, C, G, sv, T, B, qla, qcn, qC, qG, qsv, qT, qB) := by
  have e9 : nI x - nI x / 9 * 9 = nI (x % 9) := md' 9 (by omega) (by omega) (by omega)
  have e4 : nI x - nI x / 4 * 4 = nI (x % 4) := md' 4 (by omega) (by omega) (by omega)
  have e2 : nI x - nI x / 2 * 2 = nI (x % 2) := md' 2 (by omega) (by omega) (by omega)
  have l9 : x % 9 < 9 := Nat.mod_lt _ (by omega)
  intro d
  induction d with
  | zero =>
    intro k n hd hk hn
    obtain ⟨n, rfl⟩ : ∃ g, n = g + 1 := ⟨n - 1, by omega⟩
    rw [fM_alike_47, if_pos (show (10 : Int32) ≤ nI k from (m_le (a := 10) (by omega) (by omega)).mpr (by omega)), gz_in (by decide)]
  | succ d ih =>
    intro k n hd hk hn
    obtain ⟨n, rfl⟩ : ∃ g, n = g + 1 := ⟨n - 1, by omega⟩
    have hk10 : k < 10 := by omega
    obtain ⟨r1, R1⟩ := q_cat m σ h sl k x hk10
    obtain ⟨r2, R2⟩ := q_lies m σ h sl k x hk10
    obtain ⟨r3, R3⟩ := q_waits m σ h sl k hk10
    obtain ⟨r4, R4⟩ := q_room m σ h sl (3 * k + x % 9) x (by omega)
    have ek : (3 : Int32) * nI k = nI (3 * k) := m_mul 3 k
    rw [fM_alike_47, if_neg (show ¬ (10 : Int32) ≤ nI k from fun e => by have := (m_le (a := 10) (by omega) (by omega)).mp e; omega), if_neg (show ¬ (1 : Int32) = 0 from by decide), e9, e4, e2, ek, m_add]
    unfold fM_alike_198
    rw [k_about H k rfl (by omega), Option.bind_some]
    dsimp only
    rw [k_about Q k rfl (by omega), Option.bind_some]
    dsimp only
    rw [if_pos rfl, R1 _ _ _ _ _ _ _ _ _ H, Option.bind_some]
    dsimp only
    rw [R1 _ _ _ _ _ _ _ _ _ Q, Option.bind_some]
    dsimp only
    rw [if_pos rfl, R2 _ _ _ _ _ _ _ _ _ H, Option.bind_some]
    dsimp only
    rw [R2 _ _ _ _ _ _ _ _ _ Q, Option.bind_some]
    dsimp only
    rw [if_pos rfl, R3 _ _ _ _ _ _ _ _ _ H, Option.bind_some]
    dsimp only
    rw [R3 _ _ _ _ _ _ _ _ _ Q, Option.bind_some]
    dsimp only
    rw [if_pos rfl, R4 _ _ _ _ _ _ _ _ _ H, Option.bind_some]
    dsimp only
    rw [R4 _ _ _ _ _ _ _ _ _ Q, Option.bind_some]
    dsimp only
    rw [if_pos rfl, s1p]
    exact ih (k + 1) n (by omega) (by omega) (by omega)
theorem alike_c (H : HS m σ h sl la cn C G sv) (Q : HS m σ h sl qla qcn qC qG qsv) (hx : x < 2147483648) : ∃ T' B' qT' qB', fM_alike la cn us ch C G sv T B qla qcn qus qch qC qG qsv qT qB (nI x) = some (1, la, cn, C, G, sv, T', B', qla, qcn, qC, qG, qsv, qT', qB') := by
  have e20 : nI x - nI x / 20 * 20 = nI (x % 20) := md' 20 (by omega) (by omega) (by omega)
  have a1 : (1 : Int32) + nI (x % 20) = nI (1 + x % 20) := m_add 1 _
  have l20 : x % 20 < 20 := Nat.mod_lt _ (by omega)
  obtain ⟨T1, e1⟩ := sim_c (us := us) (ch := ch) (T := T) (B := B) (p := 1 + x % 20) H (by omega) (by omega) (nI x).toInt64
  obtain ⟨T2, e2⟩ := sim_c (us := qus) (ch := qch) (T := qT) (B := qB) (p := 1 + x % 20) Q (by omega) (by omega) (nI x).toInt64
  obtain ⟨B1, e3⟩ := k_through (us := us) (ch := ch) (T := T1) (B := B) H
  obtain ⟨B2, e4⟩ := k_through (us := qus) (ch := qch) (T := T2) (B := qB) Q
  refine ⟨T1, B1, T2, B2, ?_⟩
  unfold fM_alike fM_alike_43
  rw [e20, a1, e1, Option.bind_some]
  dsimp only
  rw [e2, Option.bind_some]
  dsimp only
  rw [if_pos rfl, e3, Option.bind_some]
  dsimp only
  rw [e4, Option.bind_some]
  dsimp only
  rw [if_pos rfl]
  exact alike47 H Q hx 10 0 12 (by omega) (by omega) (by omega)
end ALS
