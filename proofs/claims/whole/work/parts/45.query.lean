/-! QUERIES: the class's answer is the reference's -/
section QRY
variable {σ τ κ : Nat → Nat} {i k w v x : Nat} {la cn us : Int32} {ch : Nat → Int32} {G sv T B : Nat → Int32} {O : Nat → Int64} {rf zs ac sp ou : Int32} {mt jT jO dy kp ik : Nat → Int32}
def AG (o : Option (Int32 × (Nat → Int64))) (m : Option (Int32 × Int32)) : Prop := ∃ e O' r, o = some (e, O') ∧ m = some (r, e) ∧ (e = 0 → O' 0 = r.toInt64)
theorem ag_ok {o : Option (Int32 × (Nat → Int64))} {m : Option (Int32 × Int32)} {r : Int32} (h1 : o = some (0, vp_updL O 0 r.toInt64)) (h2 : m = some (r, 0)) : AG o m := ⟨0, _, r, h1, h2, fun _ => by simp [vp_updL]⟩
theorem ag_no {o : Option (Int32 × (Nat → Int64))} {m : Option (Int32 × Int32)} {r e : Int32} (he : e ≠ 0) (h1 : o = some (e, O)) (h2 : m = some (r, e)) : AG o m := ⟨e, O, r, h1, h2, fun h => absurd h he⟩
theorem one_of (σ : Nat → Nat) (y : Int32) : (∃ n, n < σ 0 ∧ y = nI n) ∨ (∀ n, n < σ 0 → y ≠ nI n) := by
  by_cases h : ∃ n, n < σ 0 ∧ y = nI n
  · exact Or.inl h
  · exact Or.inr fun n hn e => h ⟨n, hn, e⟩
theorem upto (m : Nat) (y : Int32) : (∃ n, n < m ∧ y = nI n) ∨ (∀ n, n < m → y ≠ nI n) := by
  by_cases h : ∃ n, n < m ∧ y = nI n
  · exact Or.inl h
  · exact Or.inr fun n hn e => h ⟨n, hn, e⟩
theorem in_t {m : Nat} (hi : i ≤ m) (hm : m < 2147483648) : fX4_in (nI i).toInt64 0 (nI m).toInt64 = some (nI 1) := by
  rw [show (0 : Int64) = (nI 0).toInt64 from by decide, in_eq, if_pos ⟨(m_le (by omega) (by omega)).mpr (by omega), (m_le (by omega) (by omega)).mpr (by omega)⟩]
theorem in_f {y : Int32} {m : Nat} (hm : m < 2147483648) (h : ∀ n, n ≤ m → y ≠ nI n) : fX4_in y.toInt64 0 (nI m).toInt64 = some (nI 0) := by
  rw [show (0 : Int64) = (nI 0).toInt64 from by decide, in_eq, if_neg (rng_f (by omega) (by omega) fun n _ h2 => h n h2)]
def abv (σ : Nat → Nat) (n : Nat) : Nat := if n = 0 then σ 0 else if n = 5 then σ 1 else if n = 6 then lieS σ else if n = 7 then shS σ 36 0 else if n = 8 then σ 2 else if n = 9 then σ 3 else cntN σ (n - 1)
theorem about30 (hW : WF σ) (hv : v ≤ 9) : ∀ n i, i ≤ σ 0 → σ 0 - i < n → fX4_about_30 (E σ) (nI v) n (nI (sumN (fun i => σ (40 + 18 * i + 1)) i)) (nI i) rf = some (nI (abv σ v), rf) := by
  have h0 := hW.1
  intro n
  induction n with
  | zero => intro i _ h; omega
  | succ n ih =>
    intro i hi hn
    rw [fX4_about_30]
    by_cases h1 : σ 0 ≤ i
    · rw [if_pos (show E σ 0 ≤ nI i from (m_le (by omega) (by omega)).mpr h1)]
      have e : i = σ 0 := by omega
      subst e
      have h01 : ∀ c : Nat, c < 10 → (nI v = nI c ↔ v = c) := fun c hc => m_eq (by omega) (by omega)
      unfold abv lieS
      by_cases g0 : v = 0
      · subst g0; rfl
      rw [if_neg (show ¬ nI v = 0 from fun e => g0 ((h01 0 (by omega)).mp e)), if_neg g0]
      by_cases g5 : v = 5
      · subst g5; rfl
      rw [if_neg (show ¬ nI v = 5 from fun e => g5 ((h01 5 (by omega)).mp e)), if_neg g5]
      by_cases g6 : v = 6
      · subst g6; rfl
      rw [if_neg (show ¬ nI v = 6 from fun e => g6 ((h01 6 (by omega)).mp e)), if_neg g6]
      by_cases g7 : v = 7
      · subst g7
        rw [if_pos (show nI 7 = 7 from rfl), shutOnes_E]; rfl
      rw [if_neg (show ¬ nI v = 7 from fun e => g7 ((h01 7 (by omega)).mp e)), if_neg g7]
      by_cases g8 : v = 8
      · subst g8; rfl
      rw [if_neg (show ¬ nI v = 8 from fun e => g8 ((h01 8 (by omega)).mp e)), if_neg g8]
      by_cases g9 : v = 9
      · subst g9; rfl
      rw [if_neg (show ¬ nI v = 9 from fun e => g9 ((h01 9 (by omega)).mp e)), if_neg g9]
      rw [show (1 : Int32) = nI 1 from rfl, m_sub (show 1 ≤ v by omega), count_E hW (by omega)]
      rfl
    · simp (disch := omega) only [of_E, Nat.add_zero, upN_ne, upN_same, m_lit, m_neg1, m_add, m_mul, m_sub, m_div, m_le, m_lt, m_eq, m_cl, m_gd, m_E, m_upd, m_isz0, m_isz1, Option.bind_some]
      rw [if_neg h1]
      exact ih (i + 1) (by omega) (by omega)
theorem about_c (h : Rep 0 κ σ) (hW : WF σ) (hv : v ≤ 9) : fX3_about la cn us ch (E κ) G sv T B (nI v) = some (.inr (nI (abv σ v))) := by
  have a0 := h.1
  have a1 := h.2.1
  have a2 := h.2.2.1
  have a3 := h.2.2.2.1
  have h01 : ∀ c : Nat, c < 10 → (nI v = nI c ↔ v = c) := fun c hc => m_eq (by omega) (by omega)
  unfold fX3_about
  by_cases g0 : v = 0
  · subst g0; show some (Sum.inr (nI (κ 0))) = some (Sum.inr (nI (σ 0))); rw [a0]
  rw [if_neg (show ¬ nI v = 0 from fun e => g0 ((h01 0 (by omega)).mp e))]
  by_cases g1 : v = 1
  · subst g1; rw [if_pos (show nI 1 = 1 from rfl), show (0 : Int32) = nI 0 from rfl, countWhere_c h hW (by omega)]; rfl
  rw [if_neg (show ¬ nI v = 1 from fun e => g1 ((h01 1 (by omega)).mp e))]
  by_cases g2 : v = 2
  · subst g2; rw [if_pos (show nI 2 = 2 from rfl), show (1 : Int32) = nI 1 from rfl, countWhere_c h hW (by omega)]; rfl
  rw [if_neg (show ¬ nI v = 2 from fun e => g2 ((h01 2 (by omega)).mp e))]
  by_cases g3 : v = 3
  · subst g3; rw [if_pos (show nI 3 = 3 from rfl), show (2 : Int32) = nI 2 from rfl, countWhere_c h hW (by omega)]; rfl
  rw [if_neg (show ¬ nI v = 3 from fun e => g3 ((h01 3 (by omega)).mp e))]
  by_cases g4 : v = 4
  · subst g4; rw [if_pos (show nI 4 = 4 from rfl), show (3 : Int32) = nI 3 from rfl, countWhere_c h hW (by omega)]; rfl
  rw [if_neg (show ¬ nI v = 4 from fun e => g4 ((h01 4 (by omega)).mp e))]
  by_cases g5 : v = 5
  · subst g5; show some (Sum.inr (nI (κ 2))) = some (Sum.inr (nI (σ 1))); rw [a2]; rfl
  rw [if_neg (show ¬ nI v = 5 from fun e => g5 ((h01 5 (by omega)).mp e))]
  by_cases g6 : v = 6
  · subst g6; rw [if_pos (show nI 6 = 6 from rfl), takenRooms_c h hW]; rfl
  rw [if_neg (show ¬ nI v = 6 from fun e => g6 ((h01 6 (by omega)).mp e))]
  by_cases g7 : v = 7
  · subst g7; rw [if_pos (show nI 7 = 7 from rfl), shutRooms_c h hW]; rfl
  rw [if_neg (show ¬ nI v = 7 from fun e => g7 ((h01 7 (by omega)).mp e))]
  by_cases g8 : v = 8
  · subst g8; show some (Sum.inr (nI (κ 1))) = some (Sum.inr (nI (σ 2))); rw [a1]
  rw [if_neg (show ¬ nI v = 8 from fun e => g8 ((h01 8 (by omega)).mp e))]
  by_cases g9 : v = 9
  · subst g9; show some (Sum.inr (nI (κ 3))) = some (Sum.inr (nI (σ 3))); rw [a3]
  omega
theorem q_about (h : Rep 0 κ σ) (hW : WF σ) (y : Int32) : AG (fL_about la cn us ch (E κ) G sv T B O y) (fX4_about rf zs ac sp ou mt (E σ) jT jO dy kp ik y) := by
  have h0 := hW.1
  unfold fL_about fX4_about
  rcases upto 10 y with ⟨n, hn, rfl⟩ | hn
  · refine ag_ok (O := O) (r := nI (abv σ n)) ?_ ?_
    · rw [about_c h hW (by omega)]; rfl
    · rw [show (9 : Int64) = (nI 9).toInt64 from by decide, in_t (by omega) (by omega), Option.bind_some, if_neg (by decide)]
      show (some (0, 0)).bind _ = _
      rw [Option.bind_some]
      show (if (0 : Int32) = 0 then fX4_about_30 (E σ) (nI n) 5000 0 0 0 else some (0, 0)) = _
      rw [if_pos rfl]
      exact about30 hW (by omega) 5000 0 (by omega) (by omega)
  · refine ag_no (O := O) (e := 1) (r := 0) (by decide) ?_ ?_
    · unfold fX3_about
      rw [if_neg (show ¬ y = 0 from hn 0 (by omega)), if_neg (show ¬ y = 1 from hn 1 (by omega)), if_neg (show ¬ y = 2 from hn 2 (by omega)), if_neg (show ¬ y = 3 from hn 3 (by omega)), if_neg (show ¬ y = 4 from hn 4 (by omega)), if_neg (show ¬ y = 5 from hn 5 (by omega)), if_neg (show ¬ y = 6 from hn 6 (by omega)), if_neg (show ¬ y = 7 from hn 7 (by omega)), if_neg (show ¬ y = 8 from hn 8 (by omega)), if_neg (show ¬ y = 9 from hn 9 (by omega))]
      rfl
    · rw [show (9 : Int64) = (nI 9).toInt64 from by decide, in_f (by omega) (fun n h2 => hn n (by omega)), Option.bind_some, if_pos (by decide)]
      rfl
theorem lt_f {y : Int32} {m : Nat} (hm : m < 2147483648) (h : ∀ n, n < m → y ≠ nI n) (h0 : ¬ y < 0) : ¬ y < nI m := by
  rcases nI_cases y with ⟨hy, -⟩ | ⟨n, hn, rfl⟩
  · exact absurd hy h0
  · rw [m_lt hn hm]
    intro z
    exact h n z rfl
theorem q_caterpillar (h : Rep 0 κ σ) (hW : WF σ) (y z : Int32) : AG (fL_caterpillar la cn us ch (E κ) G sv T B O y z) (fX4_caterpillar rf zs ac sp ou mt (E σ) jT jO dy kp ik y z) := by
  have h0 := hW.1
  unfold fL_caterpillar fX4_caterpillar fX3_caterpillar
  rcases one_of σ y with ⟨n, hn, rfl⟩ | hn
  · rw [has_t h hW hn, isOne_t h0 hn, Option.bind_some, Option.bind_some, if_neg (show ¬ nI 1 = 0 from by decide), if_neg (show ¬ nI 1 = 0 from by decide), show (8 : Int64) = (nI 8).toInt64 from by decide]
    rcases upto 9 z with ⟨w, hw, rfl⟩ | hw
    · refine ag_ok (O := O) (r := nI (σ (40 + 18 * n + w))) ?_ ?_
      · rw [if_neg (nI_pos (by omega)), if_pos (show nI w < 9 from (m_lt (b := 9) (by omega) (by decide)).mpr hw), number_c (by omega) (by omega), h.nm hn hw]; rfl
      · rw [in_t (by omega) (by omega), Option.bind_some, if_neg (by decide)]
        show (some (0, 0)).bind _ = _
        rw [Option.bind_some]
        show (if (0 : Int32) = 0 then (fX4_of (E σ) (nI n) (nI w)).bind _ else _) = _
        rw [if_pos rfl, of_E (by omega) (by omega)]
        rfl
    · refine ag_no (O := O) (e := 2) (r := 0) (by decide) ?_ ?_
      · by_cases g : z < 0
        · rw [if_pos g]; rfl
        · rw [if_neg g, if_neg (show ¬ z < 9 from lt_f (m := 9) (by omega) hw g)]; rfl
      · rw [in_f (by omega) (fun n h2 => hw n (by omega)), Option.bind_some, if_pos (by decide)]
        rfl
  · refine ag_no (O := O) (e := 1) (r := 0) (by decide) ?_ ?_
    · rw [has_f h hW hn]; rfl
    · rw [isOne_f h0 hn]; rfl
theorem q_lies (h : Rep 0 κ σ) (hW : WF σ) (y z : Int32) : AG (fL_lies la cn us ch (E κ) G sv T B O y z) (fX4_lies rf zs ac sp ou mt (E σ) jT jO dy kp ik y z) := by
  have h0 := hW.1
  unfold fL_lies fX4_lies fX3_lies
  rcases one_of σ y with ⟨n, hn, rfl⟩ | hn
  · have l := CW_lies (hW.2.2.2.1 n hn)
    have n1 := h.nm (w := 1) hn (by omega)
    rw [has_t h hW hn, isOne_t h0 hn, Option.bind_some, Option.bind_some, if_neg (show ¬ nI 1 = 0 from by decide), if_neg (show ¬ nI 1 = 0 from by decide), show (1 : Int32) = nI 1 from rfl, number_c (by omega) (by omega), of_E (by omega) (by omega), Option.bind_some, Option.bind_some, n1]
    have hin : ∀ z : Int32, fX4_in z.toInt64 0 (nI (σ (40 + 18 * n + 1)) - nI 1).toInt64 = some (if nI 0 ≤ z ∧ z ≤ nI (σ (40 + 18 * n + 1)) - nI 1 then nI 1 else nI 0) := fun z => by
      rw [show (0 : Int64) = (nI 0).toInt64 from by decide, in_eq]
    have hc := isOne_c (σ := fun _ => σ (40 + 18 * n + 1)) z (by omega)
    rw [hin, Option.bind_some]
    rcases upto (σ (40 + 18 * n + 1)) z with ⟨w, hw, rfl⟩ | hw
    · refine ag_ok (O := O) (r := nI (σ (40 + 18 * n + (9 + w)))) ?_ ?_
      · rw [if_neg (nI_pos (by omega)), if_pos ((m_lt (by omega) (by omega)).mpr hw), show (9 : Int32) = nI 9 from rfl, m_add, number_c (by omega) (by omega), h.r hn hw]; rfl
      · rw [if_pos (show nI 0 ≤ nI w ∧ nI w ≤ nI (σ (40 + 18 * n + 1)) - nI 1 from hc.mpr ⟨w, hw, rfl⟩), if_neg (show ¬ nI 1 = 0 from by decide)]
        show (some (0, 0)).bind _ = _
        rw [Option.bind_some]
        show (if (0 : Int32) = 0 then (fX4_of (E σ) (nI n) (nI 9 + nI w)).bind _ else _) = _
        rw [if_pos rfl, m_add, of_E (by omega) (by omega)]
        rfl
    · refine ag_no (O := O) (e := 1) (r := 0) (by decide) ?_ ?_
      · by_cases g : z < 0
        · rw [if_pos g]; rfl
        · rw [if_neg g, if_neg (lt_f (by omega) hw g)]; rfl
      · rw [if_neg (show ¬ (nI 0 ≤ z ∧ z ≤ nI (σ (40 + 18 * n + 1)) - nI 1) from fun e => by obtain ⟨w, a, b⟩ := hc.mp e; exact hw w a b), if_pos (show nI 0 = 0 from rfl)]
        rfl
  · refine ag_no (O := O) (e := 1) (r := 0) (by decide) ?_ ?_
    · rw [has_f h hW hn]; rfl
    · rw [isOne_f h0 hn]; rfl
theorem q_room (h : Rep 0 κ σ) (hW : WF σ) (y z : Int32) : AG (fL_room la cn us ch (E κ) G sv T B O y z) (fX4_room rf zs ac sp ou mt (E σ) jT jO dy kp ik y z) := by
  have h0 := hW.1
  unfold fL_room fX4_room fX3_room
  rcases upto 36 y with ⟨n, hn, rfl⟩ | hn
  · rw [isRoom_c hn, isRoom_t hn, Option.bind_some, Option.bind_some, if_neg (show ¬ nI 1 = 0 from by decide), if_neg (show ¬ nI 1 = 0 from by decide), show (1 : Int64) = (nI 1).toInt64 from by decide]
    rcases upto 2 z with ⟨w, hw, rfl⟩ | hw
    · have hw2 : w = 0 ∨ w = 1 := by omega
      rw [in_t (by omega) (by omega), Option.bind_some, if_neg (show ¬ nI 1 = 0 from by decide)]
      rcases hw2 with rfl | rfl
      · refine ag_ok (O := O) (r := nI (tk σ n)) ?_ ?_
        · rw [if_pos (show nI 0 = 0 from rfl)]
          unfold fX3_room_36
          rw [if_pos (show nI 0 = 0 from rfl), takerOf_c h hn]; rfl
        · show (some (0, 0)).bind _ = _
          rw [Option.bind_some]
          show (if (0 : Int32) = 0 then (if nI 0 = 0 then (fX4_takenBy (E σ) (nI n)).bind _ else _) else _) = _
          rw [if_pos rfl, if_pos (show nI 0 = 0 from rfl), takenBy_E hW hn]
          rfl
      · refine ag_ok (O := O) (r := nI (σ (4 + n))) ?_ ?_
        · rw [if_neg (show ¬ nI 1 = 0 from by decide), if_pos (show nI 1 = 1 from rfl)]
          unfold fX3_room_36
          rw [if_neg (show ¬ nI 1 = 0 from by decide), isShut_c h hW hn, Option.bind_some]
          have := hW.2.2.1 n hn
          by_cases g : σ (4 + n) = 0
          · rw [g, if_pos (show nI 0 = 0 from rfl)]; rfl
          · rw [show σ (4 + n) = 1 by omega, if_neg (show ¬ nI 1 = 0 from by decide)]; rfl
        · show (some (0, 0)).bind _ = _
          rw [Option.bind_some]
          show (if (0 : Int32) = 0 then (if nI 1 = 0 then _ else gd (nI 4 + nI n) 220 (some (E σ (nI 4 + nI n).toNatClampNeg, 0))) else _) = _
          rw [if_pos rfl, if_neg (show ¬ nI 1 = 0 from by decide), m_add, m_gd (by omega) (by omega), m_cl (by omega)]
          rfl
    · refine ag_no (O := O) (e := 2) (r := 0) (by decide) ?_ ?_
      · rw [if_neg (show ¬ z = 0 from hw 0 (by omega)), if_neg (show ¬ z = 1 from hw 1 (by omega))]; rfl
      · rw [in_f (by omega) (fun n h2 => hw n (by omega)), Option.bind_some, if_pos (by decide)]
        rfl
  · refine ag_no (O := O) (e := 1) (r := 0) (by decide) ?_ ?_
    · rw [isRoom_cf hn]; rfl
    · rw [isRoom_f hn]; rfl

theorem q_next (h : Rep 0 κ σ) (hW : WF σ) (y : Int32) : AG (fL_next la cn us ch (E κ) G sv T B O y) (fX4_next rf zs ac sp ou mt (E σ) jT jO dy kp ik y) := by
  have h0 := hW.1
  unfold fL_next fX4_next fX3_next
  rcases one_of σ y with ⟨n, hn, rfl⟩ | hn
  · rw [has_t h hW hn, isOne_t h0 hn, Option.bind_some, Option.bind_some, if_neg (show ¬ nI 1 = 0 from by decide), if_neg (show ¬ nI 1 = 0 from by decide)]
    refine ag_ok (O := O) (r := nI (wants σ n)) ?_ ?_
    · rw [nextRoomOf_c h hW hn]; rfl
    · show (some (0, 0)).bind _ = _
      rw [Option.bind_some]
      show (if (0 : Int32) = 0 then (fX4_wants (E σ) (nI n)).bind _ else _) = _
      rw [if_pos rfl, wants_E hW hn]
      rfl
  · refine ag_no (O := O) (e := 1) (r := 0) (by decide) ?_ ?_
    · rw [has_f h hW hn]; rfl
    · rw [isOne_f h0 hn]; rfl

theorem q_waitsFor (h : Rep 0 κ σ) (hW : WF σ) (y : Int32) : AG (fL_waitsFor la cn us ch (E κ) G sv T B O y) (fX4_waitsFor rf zs ac sp ou mt (E σ) jT jO dy kp ik y) := by
  have h0 := hW.1
  unfold fL_waitsFor fX4_waitsFor fX3_waitsFor
  rcases one_of σ y with ⟨n, hn, rfl⟩ | hn
  · rw [has_t h hW hn, isOne_t h0 hn, Option.bind_some, Option.bind_some, if_neg (show ¬ nI 1 = 0 from by decide), if_neg (show ¬ nI 1 = 0 from by decide)]
    refine ag_ok (O := O) (r := nI (blk σ n)) ?_ ?_
    · rw [blockerOf_c h hW hn]; rfl
    · show (some (0, 0)).bind _ = _
      rw [Option.bind_some]
      show (if (0 : Int32) = 0 then (fX4_blockedBy (E σ) (nI n)).bind _ else _) = _
      rw [if_pos rfl, blockedBy_E hW hn]
      rfl
  · refine ag_no (O := O) (e := 1) (r := 0) (by decide) ?_ ?_
    · rw [has_f h hW hn]; rfl
    · rw [isOne_f h0 hn]; rfl

theorem q_ring (h : Rep 0 κ σ) (hW : WF σ) (y : Int32) : AG (fL_ring la cn us ch (E κ) G sv T B O y) (fX4_ring rf zs ac sp ou mt (E σ) jT jO dy kp ik y) := by
  have h0 := hW.1
  unfold fL_ring fX4_ring fX3_ring
  rcases upto 2 y with ⟨n, hn, rfl⟩ | hn
  · have hi : ∀ z, fX4_ring_16 zs ac sp ou mt (E σ) jT jO dy kp ik z 0 rf = (fX4_ringed (E σ)).bind fun r_6 => (if r_6 = (-1) then fX4_ring_41 r_6 0 else (if z = 0 then fX4_ring_41 r_6 0 else ((fX4_ringOf (E σ) r_6).bind fun r_10 => some (r_10, 0)))) := fun z => rfl
    rw [show (1 : Int64) = (nI 1).toInt64 from by decide, in_t (by omega) (by omega), Option.bind_some, if_neg (show ¬ nI 1 = 0 from by decide), hi, ringed_E hW, Option.bind_some]
    have hx : ∀ z, fX3_ring_19 (E κ) z = (if z = 0 then fX3_ring_36 (nI (rgdN σ)) else (if nI (rgdN σ) = (-1) then fX3_ring_36 (nI (rgdN σ)) else ((fX0_ringSizeOf (E κ) (nI (rgdN σ))).bind fun r_6 => some (.inr r_6)))) := fun z => by unfold fX3_ring_19; rw [lowest_c h hW]; rfl
    have hr := rgd_in (σ := σ) (σ 0) 0
    have hr2 : rgdN σ = 4294967295 ∨ (rgdN σ < σ 0 ∧ rng σ (rgdN σ) ≠ 4294967295) := by
      unfold rgdN
      rcases hr with a | ⟨a, b⟩
      · exact Or.inl a
      · exact Or.inr ⟨by omega, b⟩
    have hw2 : n = 0 ∨ n = 1 := by omega
    rcases hw2 with rfl | rfl
    · refine ag_ok (O := O) (r := nI (rgdN σ)) ?_ ?_
      · rw [if_pos (show nI 0 = 0 from rfl), hx, if_pos (show nI 0 = 0 from rfl)]; rfl
      · rw [if_pos (show nI 0 = 0 from rfl)]
        split <;> rfl
    · rw [if_neg (show ¬ nI 1 = 0 from by decide), if_neg (show ¬ nI 1 = 0 from by decide), if_pos (show nI 1 = 1 from rfl), hx, if_neg (show ¬ nI 1 = 0 from by decide)]
      rcases hr2 with g | ⟨g, g2⟩
      · rw [g, if_pos (show nI 4294967295 = -1 from by decide), if_pos (show nI 4294967295 = -1 from by decide)]
        exact ag_ok (O := O) (r := nI 4294967295) rfl rfl
      · have hne : ¬ nI (rgdN σ) = -1 := fun e => by
          have := (m_eq (a := rgdN σ) (b := 4294967295) (by omega) (by omega)).mp (e.trans (by decide))
          omega
        rw [if_neg hne, if_neg hne, ringSize_c h hW g, ringOf_E hW g]
        unfold rz
        rw [if_neg g2]
        exact ag_ok (O := O) (r := nI (rng σ (rgdN σ))) rfl rfl
  · refine ag_no (O := O) (e := 1) (r := 0) (by decide) ?_ ?_
    · rw [if_neg (show ¬ y = 0 from hn 0 (by omega)), if_neg (show ¬ y = 1 from hn 1 (by omega))]; rfl
    · rw [show (1 : Int64) = (nI 1).toInt64 from by decide, in_f (by omega) (fun n h2 => hn n (by omega)), Option.bind_some, if_pos (by decide)]
      rfl
end QRY
