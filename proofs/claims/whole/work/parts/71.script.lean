section SCR
variable {σ τ κ : Nat → Nat} {g j n m p P : Nat} {la cn us : Int32} {ch : Nat → Int32} {C G sv T B : Nat → Int32} {rf zs ac sp ou : Int32} {mt N jT jO O dy kp ik : Nat → Int32} {Q : Nat → Int64}
theorem lgc (u v : Int64) : (lg_cmp u v < 0 ↔ u < v) ∧ (0 < lg_cmp u v ↔ v < u) ∧ (lg_cmp u v = 0 ↔ u = v) := by
  unfold lg_cmp
  by_cases h1 : u > v
  · rw [if_pos h1]
    refine ⟨⟨fun h => absurd h (by decide), fun h => absurd (Int64.lt_trans h h1) Int64.lt_irrefl⟩, ⟨fun _ => h1, fun _ => by decide⟩, ⟨fun h => absurd h (by decide), fun h => ?_⟩⟩
    rw [h] at h1; exact absurd h1 Int64.lt_irrefl
  · rw [if_neg h1]
    by_cases h2 : u = v
    · rw [if_pos h2]
      refine ⟨⟨fun h => absurd h (by decide), fun h => ?_⟩, ⟨fun h => absurd h (by decide), fun h => absurd h h1⟩, ⟨fun _ => h2, fun _ => rfl⟩⟩
      rw [h2] at h; exact absurd h Int64.lt_irrefl
    · rw [if_neg h2]
      refine ⟨⟨fun _ => ?_, fun _ => by decide⟩, ⟨fun h => absurd h (by decide), fun h => absurd h h1⟩, ⟨fun h => absurd h (by decide), fun h => absurd h h2⟩⟩
      rcases Int64.lt_or_eq_of_le (Int64.not_lt.mp h1) with h | h
      · exact h
      · exact absurd h h2
theorem inL_eq (x a b : Int64) : fX4_in x a b = some (if a ≤ x ∧ x ≤ b then nI 1 else nI 0) := by
  unfold fX4_in
  simp only [(lgc _ _).1, (lgc _ _).2.1]
  by_cases h1 : x < a
  · rw [if_pos h1, if_neg (fun h => absurd h1 (Int64.not_lt.mpr h.1))]; rfl
  · rw [if_neg h1]
    by_cases h2 : b < x
    · rw [if_pos h2, if_neg (fun h => absurd h2 (Int64.not_lt.mpr h.2))]; rfl
    · rw [if_neg h2, if_pos ⟨Int64.not_lt.mp h1, Int64.not_lt.mp h2⟩]; rfl
theorem nL_le {a b : Nat} (ha : a < 9223372036854775808) (hb : b < 9223372036854775808) : nL a ≤ nL b ↔ a ≤ b := by
  rw [Int64.le_iff_toInt_le, nL_int ha, nL_int hb]
  omega
theorem nL_eq {a b : Nat} (ha : a < 9223372036854775808) (hb : b < 9223372036854775808) : nL a = nL b ↔ a = b := by
  constructor
  · intro h
    have := congrArg Int64.toInt h
    rw [nL_int ha, nL_int hb] at this
    omega
  · intro h; rw [h]
theorem nL_sur (x : Int64) (h : ¬ x < 0) : ∃ P, P < 9223372036854775808 ∧ x = nL P := by
  have h0 : (0 : Int64) ≤ x := Int64.not_lt.mp h
  rw [Int64.le_iff_toInt_le] at h0
  have z : (0 : Int64).toInt = 0 := by decide
  rw [z] at h0
  have h1 := x.toInt_lt
  refine ⟨x.toInt.toNat, by omega, ?_⟩
  apply Int64.toInt_inj.mp
  rw [nL_int (by omega)]
  omega
/-- any group -/
theorem sc_all (hR : Rep 0 κ σ) (hW : WF σ) (hg : g < 1000000) : SC (fX3_succeeds la cn us ch C G sv (E κ) B (nI g)) (fX4_command rf zs ac sp ou mt N (E σ) O dy kp ik (nI (g / 100000)) (nI (g % 100000))) := by
  have h : g / 100000 = 0 ∨ g / 100000 = 1 ∨ g / 100000 = 2 ∨ g / 100000 = 3 ∨ g / 100000 = 4 ∨ g / 100000 = 5 ∨ g / 100000 = 6 ∨ g / 100000 = 7 ∨ g / 100000 = 8 ∨ g / 100000 = 9 := by omega
  rcases h with h | h | h | h | h | h | h | h | h | h
  · have := sc_0 (la := la) (cn := cn) (us := us) (ch := ch) (C := C) (G := G) (sv := sv) (B := B) (rf := rf) (zs := zs) (ac := ac) (sp := sp) (ou := ou) (mt := mt) (N := N) (O := O) (dy := dy) (kp := kp) (ik := ik) hR hW hg h
    rw [h]; exact this
  · have := sc_1 (la := la) (cn := cn) (us := us) (ch := ch) (C := C) (G := G) (sv := sv) (B := B) (rf := rf) (zs := zs) (ac := ac) (sp := sp) (ou := ou) (mt := mt) (N := N) (O := O) (dy := dy) (kp := kp) (ik := ik) hR hW hg h
    rw [h]; exact this
  · have := sc_2 (la := la) (cn := cn) (us := us) (ch := ch) (C := C) (G := G) (sv := sv) (B := B) (rf := rf) (zs := zs) (ac := ac) (sp := sp) (ou := ou) (mt := mt) (N := N) (O := O) (dy := dy) (kp := kp) (ik := ik) hR hW hg h
    rw [h]; exact this
  · have := sc_3 (la := la) (cn := cn) (us := us) (ch := ch) (C := C) (G := G) (sv := sv) (B := B) (rf := rf) (zs := zs) (ac := ac) (sp := sp) (ou := ou) (mt := mt) (N := N) (O := O) (dy := dy) (kp := kp) (ik := ik) hR hW hg h
    rw [h]; exact this
  · have := sc_4 (la := la) (cn := cn) (us := us) (ch := ch) (C := C) (G := G) (sv := sv) (B := B) (rf := rf) (zs := zs) (ac := ac) (sp := sp) (ou := ou) (mt := mt) (N := N) (O := O) (dy := dy) (kp := kp) (ik := ik) hR hW hg h
    rw [h]; exact this
  · have := sc_5 (la := la) (cn := cn) (us := us) (ch := ch) (C := C) (G := G) (sv := sv) (B := B) (rf := rf) (zs := zs) (ac := ac) (sp := sp) (ou := ou) (mt := mt) (N := N) (O := O) (dy := dy) (kp := kp) (ik := ik) hR hW hg h
    rw [h]; exact this
  · have := sc_6 (la := la) (cn := cn) (us := us) (ch := ch) (C := C) (G := G) (sv := sv) (B := B) (rf := rf) (zs := zs) (ac := ac) (sp := sp) (ou := ou) (mt := mt) (N := N) (O := O) (dy := dy) (kp := kp) (ik := ik) hR hW hg h
    rw [h]; exact this
  · have := sc_7 (la := la) (cn := cn) (us := us) (ch := ch) (C := C) (G := G) (sv := sv) (B := B) (rf := rf) (zs := zs) (ac := ac) (sp := sp) (ou := ou) (mt := mt) (N := N) (O := O) (dy := dy) (kp := kp) (ik := ik) hR hW hg h
    rw [h]; exact this
  · have := sc_8 (la := la) (cn := cn) (us := us) (ch := ch) (C := C) (G := G) (sv := sv) (B := B) (rf := rf) (zs := zs) (ac := ac) (sp := sp) (ou := ou) (mt := mt) (N := N) (O := O) (dy := dy) (kp := kp) (ik := ik) hR hW hg h
    rw [h]; exact this
  · have := sc_9 (la := la) (cn := cn) (us := us) (ch := ch) (C := C) (G := G) (sv := sv) (B := B) (rf := rf) (zs := zs) (ac := ac) (sp := sp) (ou := ou) (mt := mt) (N := N) (O := O) (dy := dy) (kp := kp) (ik := ik) hR hW hg h
    rw [h]; exact this
/-- a number without its last groups -/
theorem wo (f : Nat) (hP : P < 9223372036854775808) : ∀ d i, d + i = j → j ≤ 3 → fX3_withoutGroups_5 (nI j) (f + d + 1) (nL (P / 1000000 ^ i)) (nI i) = some (nL (P / 1000000 ^ j)) := by
  intro d
  induction d with
  | zero =>
    intro i h hj
    rw [fX3_withoutGroups_5, if_pos (show nI j ≤ nI i from (m_le (by omega) (by omega)).mpr (by omega)), show i = j by omega]
  | succ d ih =>
    intro i h hj
    have hd : P / 1000000 ^ i < 9223372036854775808 := by have := Nat.div_le_self P (1000000 ^ i); omega
    have e := nL_div (k := 1000000) hd (by omega) (by omega)
    rw [fX3_withoutGroups_5, if_neg (show ¬ nI j ≤ nI i from fun e => by have := (m_le (by omega) (by omega)).mp e; omega), s1p, show (1000000 : Int64) = nL 1000000 from rfl, e, Nat.div_div_eq_div_mul, ← Nat.pow_succ]
    exact ih (i + 1) (by omega) hj
theorem without_c (hP : P < 9223372036854775808) (hj : j ≤ 3) : fX3_withoutGroups (nL P) (nI j) = some (nL (P / 1000000 ^ j)) := by
  have := wo (4999 - j) hP j 0 (by omega) hj
  rw [Nat.pow_zero, Nat.div_one, show 4999 - j + j + 1 = 5000 by omega] at this
  exact this
end SCR
