/-! WHAT IS REFUSED leaves no trace -/
section RFS
variable {σ τ κ : Nat → Nat} {h : List (Nat → Nat)} {sl : Nat → Option (Nat → Nat)} {m n x a k : Nat} {la cn us : Int32} {ch C G sv T B : Nat → Int32} {y z v2 v3 z0 z1 z2 z3 : Int32}
theorem neg_of (h1 : 2147483648 ≤ a) (h2 : a < 4294967296) : nI a < 0 := by
  rcases nI_cases (nI a) with ⟨h, -⟩ | ⟨n, hn, e⟩
  · exact h
  · have := (m_eq h2 (by omega)).mp e
    omega
theorem m1s (hk : k < 4294967296) : (-1 : Int32) - nI k = nI (4294967295 - k) := by
  rw [show (-1 : Int32) = nI 4294967295 from by decide, m_sub (by omega)]
theorem ne_hi {lim : Nat} (hl : lim ≤ 2147483648) (h1 : lim ≤ a) (h2 : a < 4294967296) : ∀ n, n < lim → nI a ≠ nI n := fun n hn e => by
  have := (m_eq h2 (by omega)).mp e
  omega
theorem wg1 (f : Nat) (s : Int64) : fX3_withoutGroups_5 1 (f + 1 + 1) s 0 = some (s / 1000000) := by
  rw [fX3_withoutGroups_5, if_neg (show ¬ (1 : Int32) ≤ 0 from by decide), fX3_withoutGroups_5, if_pos (show (1 : Int32) ≤ 0 + 1 from by decide)]
theorem do_script0 : fM_doScript la cn us ch C G sv T B 0 0 = some (-9999002) := by
  unfold fM_doScript fX3_runScript
  rw [if_pos (show (0 : Int32) < 1 from by decide)]
  rfl
theorem do_script1 (hx : x < 100000) : fM_doScript la cn us ch C G sv T B 1 (1000000 + (nI x).toInt64) = some (-9999002) := by
  have e : (1000000 : Int64) + (nI x).toInt64 = nL (1000000 + x) := by
    rw [i2l (by omega), show (1000000 : Int64) = nL 1000000 from rfl, nL_add]
  have w : fX3_withoutGroups (nL (1000000 + x)) 1 = some (nL 1) := by
    have := wg1 4998 (nL (1000000 + x))
    rw [show (1000000 : Int64) = nL 1000000 from rfl, nL_div (by omega) (by omega) (by omega), show (1000000 + x) / 1000000 = 1 by omega] at this
    exact this
  have z0 : (0 : Int64) = nL 0 := rfl
  unfold fM_doScript fX3_runScript
  rw [e, if_neg (show ¬ (1 : Int32) < 1 from by decide), if_pos (show (1 : Int32) ≤ 3 from by decide), z0, if_neg (fun q => by
    have := (lgc _ _).1.mp q
    rw [Int64.lt_iff_toInt_lt, nL_int (by omega), nL_int (by omega)] at this
    omega), w, Option.bind_some, if_neg (fun q => by
    have := (nL_eq (by omega) (by omega)).mp ((lgc _ _).2.2.mp q)
    omega)]
  rfl
theorem do_sim_f (z : Int64) (hk : 60 < k) (hk2 : k < 2147483648) (hy : y = nI k) : fM_doSimulate la cn us ch C G sv T B z y = some (-9999002, T) := by
  unfold fM_doSimulate fX3_simulate
  rw [hy, if_neg (show ¬ nI k < 1 from fun e => by have := (m_lt (b := 1) (by omega) (by omega)).mp e; omega), if_neg (show ¬ nI k ≤ 60 from fun e => by have := (m_le (b := 60) (by omega) (by omega)).mp e; omega)]
  rfl
theorem md' (c : Nat) (hx : x < 2147483648) (h0 : 0 < c) (hc : c < 2147483648) : nI x - nI x / nI c * nI c = nI (x % c) := md hx h0 hc
theorem r288 (H : HS m σ h sl la cn C G sv) (hx : x < 100000) (hfar : ∀ n, n < σ 0 → v2 ≠ nI n) (hno : ∀ n, n < 36 → v3 ≠ nI n) (h0 : ∀ n, 1 ≤ n → n ≤ 60 → z0 ≠ nI n) : fM_refuses_288 us ch (nI x) v2 v3 z0 10 la cn C G sv T B = some (1, la, cn, C, G, sv, T, B) := by
  have e9 : nI x - nI x / 9 * 9 = nI (x % 9) := md' 9 (by omega) (by omega) (by omega)
  have e36 : nI x - nI x / 36 * 36 = nI (x % 36) := md' 36 (by omega) (by omega) (by omega)
  have e50 : nI x - nI x / 50 * 50 = nI (x % 50) := md' 50 (by omega) (by omega) (by omega)
  have a3 : (3 : Int32) + nI (x % 9) = nI (3 + x % 9) := m_add 3 _
  have a10 : (10 : Int32) + nI (x % 9) = nI (10 + x % 9) := m_add 10 _
  have a2 : (2 : Int32) + nI (x % 50) = nI (2 + x % 50) := m_add 2 _
  have a61 : (61 : Int32) + nI (x % 9) = nI (61 + x % 9) := m_add 61 _
  have l9 : x % 9 < 9 := Nat.mod_lt _ (by omega)
  have l36 : x % 36 < 36 := Nat.mod_lt _ (by omega)
  have l50 : x % 50 < 50 := Nat.mod_lt _ (by omega)
  unfold fM_refuses_288
  rw [e9, e36, e50, a3, a10, a2, a61, m1s (by omega)]
  rw [k_ticks_f h0, Option.bind_some]
  dsimp only
  rw [if_pos rfl, k_rule_f (fun n hn e => by have := (m_eq (by omega) (by omega)).mp e; omega), Option.bind_some]
  dsimp only
  rw [if_pos rfl, k_shut_f hno, Option.bind_some]
  dsimp only
  rw [if_pos rfl, k_pull_f H hfar, Option.bind_some]
  dsimp only
  rw [if_pos rfl, k_gone_f H hfar, Option.bind_some]
  dsimp only
  rw [if_pos rfl, k_if_f1 hno, Option.bind_some]
  dsimp only
  rw [if_pos rfl, k_if_f3 (y := 0) (k := 0) (v := x % 36) (by omega) rfl (by omega) rfl (fun n h1 h2 e => by have := (m_eq (by omega) (by omega)).mp e; omega), Option.bind_some]
  dsimp only
  rw [if_pos rfl, k_keep_f (Or.inr ⟨2 + x % 50, by omega, by omega, rfl⟩), Option.bind_some]
  dsimp only
  rw [if_pos rfl, k_back_f (neg_of (by omega) (by omega)), Option.bind_some]
  dsimp only
  rw [if_pos rfl, do_script0, Option.bind_some, if_pos rfl, do_script1 hx, Option.bind_some, if_pos rfl, do_sim_f (k := 61 + x % 9) _ (by omega) (by omega) rfl, Option.bind_some]
  dsimp only
  rw [if_pos rfl]
theorem r62 (H : HS m σ h sl la cn C G sv) (hx : x < 100000) (hfar : ∀ n, n < σ 0 → v2 ≠ nI n) (hno : ∀ n, n < 36 → v3 ≠ nI n) (h0 : z0 < 0 ∨ ∃ v, 256 ≤ v ∧ v < 2147483648 ∧ z0 = nI v) : fM_refuses_62 us ch (nI x) v2 v3 z0 0 la cn C G sv T B = some (1, la, cn, C, G, sv, T, B) := by
  have e2 : nI x - nI x / 2 * 2 = nI (x % 2) := md' 2 (by omega) (by omega) (by omega)
  have e9 : nI x - nI x / 9 * 9 = nI (x % 9) := md' 9 (by omega) (by omega) (by omega)
  have e36 : nI x - nI x / 36 * 36 = nI (x % 36) := md' 36 (by omega) (by omega) (by omega)
  have e50 : nI x - nI x / 50 * 50 = nI (x % 50) := md' 50 (by omega) (by omega) (by omega)
  have a2 : (2 : Int32) + nI (x % 9) = nI (2 + x % 9) := m_add 2 _
  have a10 : (10 : Int32) + nI (x % 50) = nI (10 + x % 50) := m_add 10 _
  have b10 : (10 : Int32) + nI (x % 9) = nI (10 + x % 9) := m_add 10 _
  have a61 : (61 : Int32) + nI (x % 9) = nI (61 + x % 9) := m_add 61 _
  have l9 : x % 9 < 9 := Nat.mod_lt _ (by omega)
  have l36 : x % 36 < 36 := Nat.mod_lt _ (by omega)
  have l50 : x % 50 < 50 := Nat.mod_lt _ (by omega)
  have hs0 := H.ok.1.1
  unfold fM_refuses_62 fM_refuses_260
  rw [e2, e9, e36, e50, a2, a10, b10, a61, m1s (by omega)]
  rw [k_append_f h0, Option.bind_some]
  dsimp only
  rw [if_pos rfl, k_about_f (v := 10 + x % 50) (by omega) (by omega) rfl, Option.bind_some]
  dsimp only
  rw [if_pos rfl, k_cat_f H hfar, Option.bind_some]
  dsimp only
  rw [if_pos rfl, k_lies_f H hfar, Option.bind_some]
  dsimp only
  rw [if_pos rfl, k_room_f H hno, Option.bind_some]
  dsimp only
  rw [if_pos rfl, k_room_w H (x % 36) (by omega) rfl (fun e => by have := (m_eq (b := 0) (by omega) (by omega)).mp e; omega) (fun e => by have := (m_eq (b := 1) (by omega) (by omega)).mp e; omega), Option.bind_some]
  dsimp only
  rw [if_pos rfl, k_next_f H hfar, Option.bind_some]
  dsimp only
  rw [if_pos rfl, k_waits_f H (ne_hi (by omega) (by omega) (by omega)), Option.bind_some]
  dsimp only
  rw [if_pos rfl, k_ring_f H (fun e => by have := (m_eq (b := 0) (by omega) (by omega)).mp e; omega) (fun e => by have := (m_eq (b := 1) (by omega) (by omega)).mp e; omega), Option.bind_some]
  dsimp only
  rw [if_pos rfl, k_hatch_f1 hno, Option.bind_some]
  dsimp only
  rw [if_pos rfl, k_hatch_f2 (y := 0) (k := 0) (by omega) rfl hno, Option.bind_some]
  dsimp only
  rw [if_pos rfl]
  by_cases g : x % 2 = 0
  · rw [g, if_pos (show nI 0 = 0 from rfl), k_hatch_f3 (z := 0) (k := x % 36) (v := 0) (by omega) rfl (by omega) rfl (fun n h1 h2 e => by have := (m_eq (a := 0) (by omega) (by omega)).mp e; omega), Option.bind_some]
    dsimp only
    rw [if_pos rfl, if_pos (show nI 0 = 0 from rfl)]
    exact r288 H hx hfar hno (fun n h1 h2 e => by have := (m_eq (a := 0) (by omega) (by omega)).mp e; omega)
  · rw [show x % 2 = 1 by omega, if_neg (show ¬ nI 1 = 0 from by decide), k_hatch_f3 (z := 0) (k := x % 36) (v := 0) (by omega) rfl (by omega) rfl (fun n h1 h2 e => by have := (m_eq (by omega) (by omega)).mp e; omega), Option.bind_some]
    dsimp only
    rw [if_pos rfl, if_neg (show ¬ nI 1 = 0 from by decide)]
    exact r288 H hx hfar hno (fun n h1 h2 e => by have := (m_eq (by omega) (by omega)).mp e; omega)
theorem refuses_c (H : HS m σ h sl la cn C G sv) (hx : x < 100000) : fM_refuses la cn us ch C G sv T B (nI x) = some (1, la, cn, C, G, sv, T, B) := by
  have e2 : nI x - nI x / 2 * 2 = nI (x % 2) := md' 2 (by omega) (by omega) (by omega)
  have e9 : nI x - nI x / 9 * 9 = nI (x % 9) := md' 9 (by omega) (by omega) (by omega)
  have e50 : nI x - nI x / 50 * 50 = nI (x % 50) := md' 50 (by omega) (by omega) (by omega)
  have e99 : nI x - nI x / 99 * 99 = nI (x % 99) := md' 99 (by omega) (by omega) (by omega)
  have a256 : (256 : Int32) + nI (x % 9) = nI (256 + x % 9) := m_add 256 _
  have a36 : (36 : Int32) + nI (x % 99) = nI (36 + x % 99) := m_add 36 _
  have l9 : x % 9 < 9 := Nat.mod_lt _ (by omega)
  have l99 : x % 99 < 99 := Nat.mod_lt _ (by omega)
  have l50 : x % 50 < 50 := Nat.mod_lt _ (by omega)
  have hs0 := H.ok.1.1
  have hfar : ∀ n, n < σ 0 → nI (σ 0 + x % 50) ≠ nI n := ne_hi (by omega) (by omega) (by omega)
  unfold fM_refuses fM_refuses_36
  rw [k_about (y := 0) H 0 rfl (by omega), Option.bind_some]
  dsimp only
  rw [e2, e9, e50, e99, a256, a36, m1s (by omega), m1s (by omega), show abv σ 0 = σ 0 from rfl, m_add]
  by_cases g : x % 2 = 0
  · rw [g, if_pos (show nI 0 = 0 from rfl), if_pos (show nI 0 = 0 from rfl)]
    exact r62 H hx hfar (ne_hi (by omega) (by omega) (by omega)) (Or.inl (neg_of (by omega) (by omega)))
  · rw [show x % 2 = 1 by omega, if_neg (show ¬ nI 1 = 0 from by decide), if_neg (show ¬ nI 1 = 0 from by decide)]
    exact r62 H hx hfar (ne_hi (by omega) (by omega) (by omega)) (Or.inr ⟨256 + x % 9, by omega, by omega, rfl⟩)
end RFS
