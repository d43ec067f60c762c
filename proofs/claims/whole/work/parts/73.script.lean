section SCQ
variable {σ τ κ : Nat → Nat} {g j n m p P : Nat} {la cn us : Int32} {ch : Nat → Int32} {C G sv T B : Nat → Int32} {rf zs ac sp ou : Int32} {mt N jT jO O dy kp ik : Nat → Int32} {Q : Nat → Int64}
theorem r61 {y : Int32} {z v4 : Int64} : fX4_runScript_61 zs ac sp ou mt N dy kp ik y z v4 rf jT jO = some (0, 1, jT, jO) := rfl
theorem r32_y {y : Int32} {z v4 : Int64} (h : ∀ n, 1 ≤ n → n ≤ 3 → y ≠ nI n) : fX4_runScript_32 zs ac sp ou mt N dy kp ik y z v4 rf jT jO = some (0, 1, jT, jO) := by
  unfold fX4_runScript_32
  rw [show (1 : Int64) = (nI 1).toInt64 from by decide, show (3 : Int64) = (nI 3).toInt64 from by decide, in_eq, if_neg (show ¬ (nI 1 ≤ y ∧ y ≤ nI 3) from rng_f (by omega) (by omega) h), Option.bind_some, if_pos (show nI 0 = 0 from rfl), r61]
theorem r32_z {z v4 : Int64} (hj1 : 1 ≤ j) (hj : j ≤ 3) (h : ¬ (0 ≤ z ∧ z ≤ v4 - 1)) : fX4_runScript_32 zs ac sp ou mt N dy kp ik (nI j) z v4 rf jT jO = some (0, 1, jT, jO) := by
  unfold fX4_runScript_32
  rw [show (1 : Int64) = (nI 1).toInt64 from by decide, show (3 : Int64) = (nI 3).toInt64 from by decide, in_eq, if_pos (show nI 1 ≤ nI j ∧ nI j ≤ nI 3 from ⟨(m_le (by omega) (by omega)).mpr hj1, (m_le (by omega) (by omega)).mpr hj⟩), Option.bind_some, if_neg (show ¬ nI 1 = 0 from by decide), show (nI 1).toInt64 = (1 : Int64) from by decide, inL_eq, if_neg h, Option.bind_some, if_pos (show nI 0 = 0 from rfl), r61]
theorem r6_no {y : Int32} {z : Int64} (h : ∀ n, 1 ≤ n → n ≤ 3 → y ≠ nI n) (f : Nat) : fX4_runScript_6 zs ac sp ou mt N dy kp ik y z (f + 1 + 1 + 1 + 1) 1 0 rf jT jO = some (0, 1, jT, jO) := by
  rw [fX4_runScript_6, r32_y h, fX4_runScript_6, r32_y h, fX4_runScript_6, r32_y h, fX4_runScript_6, r32_y h, if_pos (show (3 : Int32) ≤ 0 + 1 + 1 + 1 from by decide)]
  (repeat' split) <;> rfl
theorem r6_j {z : Int64} (hj1 : 1 ≤ j) (hj : j ≤ 3) (f : Nat) : fX4_runScript_6 zs ac sp ou mt N dy kp ik (nI j) z (f + 1 + 1 + 1 + 1) 1 0 rf jT jO = fX4_runScript_32 zs ac sp ou mt N dy kp ik (nI j) z (nL (1000000 ^ j)) rf jT jO := by
  have h : j = 1 ∨ j = 2 ∨ j = 3 := by omega
  rcases h with rfl | rfl | rfl
  · rw [fX4_runScript_6, if_neg (show ¬ nI 1 ≤ 0 from by decide), if_neg (show ¬ (3 : Int32) ≤ 0 from by decide), fX4_runScript_6, if_pos (show nI 1 ≤ 0 + 1 from by decide)]
    rfl
  · rw [fX4_runScript_6, if_neg (show ¬ nI 2 ≤ 0 from by decide), if_neg (show ¬ (3 : Int32) ≤ 0 from by decide), fX4_runScript_6, if_neg (show ¬ nI 2 ≤ 0 + 1 from by decide), if_neg (show ¬ (3 : Int32) ≤ 0 + 1 from by decide), fX4_runScript_6, if_pos (show nI 2 ≤ 0 + 1 + 1 from by decide), show (1 : Int64) * 1000000 * 1000000 = nL (1000000 ^ 2) from by decide]
  · rw [fX4_runScript_6, if_neg (show ¬ nI 3 ≤ 0 from by decide), if_neg (show ¬ (3 : Int32) ≤ 0 from by decide), fX4_runScript_6, if_neg (show ¬ nI 3 ≤ 0 + 1 from by decide), if_neg (show ¬ (3 : Int32) ≤ 0 + 1 from by decide), fX4_runScript_6, if_neg (show ¬ nI 3 ≤ 0 + 1 + 1 from by decide), if_neg (show ¬ (3 : Int32) ≤ 0 + 1 + 1 from by decide), fX4_runScript_6, if_pos (show nI 3 ≤ 0 + 1 + 1 + 1 from by decide), show (1 : Int64) * 1000000 * 1000000 * 1000000 = nL (1000000 ^ 3) from by decide]
theorem q_runScript (hO : OKS m κ σ) (y : Int32) (z : Int64) : ∃ e T' B' O' r T2 O2, fL_runScript la cn us ch (E κ) G sv T B Q y z = some (e, T', B', O') ∧ fX4_runScript rf zs ac sp ou mt (E σ) jT jO dy kp ik y z = some (r, e, T2, O2) ∧ (e = 0 → O' 0 = r.toInt64) := by
  have a2 : fX4_runScript rf zs ac sp ou mt (E σ) jT jO dy kp ik y z = fX4_runScript_6 zs ac sp ou mt (E σ) dy kp ik y z (4996 + 1 + 1 + 1 + 1) 1 0 rf jT jO := rfl
  rw [a2]
  have no : fX3_runScript la cn us ch (E κ) G sv T B y z = some (.inl 1) → fX4_runScript_6 zs ac sp ou mt (E σ) dy kp ik y z (4996 + 1 + 1 + 1 + 1) 1 0 rf jT jO = some (0, 1, jT, jO) → ∃ e T' B' O' r T2 O2, fL_runScript la cn us ch (E κ) G sv T B Q y z = some (e, T', B', O') ∧ fX4_runScript_6 zs ac sp ou mt (E σ) dy kp ik y z (4996 + 1 + 1 + 1 + 1) 1 0 rf jT jO = some (r, e, T2, O2) ∧ (e = 0 → O' 0 = r.toInt64) := fun h1 h2 => by
    refine ⟨1, T, B, Q, 0, jT, jO, ?_, h2, fun e => absurd e (by decide)⟩
    unfold fL_runScript
    rw [h1]; rfl
  by_cases hy : ∃ j, (1 ≤ j ∧ j ≤ 3) ∧ y = nI j
  · obtain ⟨j, ⟨hj1, hj⟩, rfl⟩ := hy
    have hx : ∀ z, fX3_runScript la cn us ch (E κ) G sv T B (nI j) z = (if (lg_cmp z 0) < 0 then some (.inl 1) else ((fX3_withoutGroups z (nI j)).bind fun r_13 => (if (lg_cmp r_13 0) = 0 then ((fX0_copyFrom T (E κ)).bind fun T_16 => fX3_runScript_62 la cn us ch (E κ) G sv (nI j) z 5000 0 T_16 B) else some (.inl 1)))) := fun z => by
      unfold fX3_runScript
      rw [if_neg (show ¬ nI j < 1 from fun e => by have := (m_lt (b := 1) (by omega) (by omega)).mp e; omega), if_pos (show nI j ≤ 3 from (m_le (b := 3) (by omega) (by omega)).mpr hj)]
    rw [hx, r6_j hj1 hj] at no
    rw [r6_j hj1 hj]
    by_cases hz : z < 0
    · exact no (if_pos ((lgc z 0).1.mpr hz)) (r32_z hj1 hj (fun e => absurd hz (Int64.not_lt.mpr e.1)))
    · obtain ⟨P, hP, rfl⟩ := nL_sur z hz
      obtain ⟨b1, b2⟩ := p6 j hj
      rw [if_neg (fun e => hz ((lgc _ 0).1.mp e)), without_c hP hj, Option.bind_some] at no
      have ec : lg_cmp (nL (P / 1000000 ^ j)) 0 = 0 ↔ P < 1000000 ^ j := by
        rw [(lgc _ _).2.2]
        have h1 := nL_eq (a := P / 1000000 ^ j) (b := 0) (by have := Nat.div_le_self P (1000000 ^ j); omega) (by omega)
        constructor
        · intro e
          have := h1.mp e
          exact (Nat.div_eq_zero_iff_lt (by omega)).mp this
        · intro e
          exact h1.mpr (Nat.div_eq_of_lt e)
      have e3 : nL (1000000 ^ j) - 1 = nL (1000000 ^ j - 1) := nL_sub (b := 1) b1
      by_cases hp : P < 1000000 ^ j
      · obtain ⟨δ, -, rfl⟩ := E_sur T
        obtain ⟨κ1, c1, c2⟩ := copy_c κ δ
        obtain ⟨σ1, s1, s2⟩ := copy_E σ jT
        have hO1 := hO.congr (κ' := κ1) (σ' := σ1) c2 s2
        obtain ⟨r, T', B', T2, O2, t1, t2⟩ := scr_loop (la := la) (cn := cn) (us := us) (ch := ch) (C := E κ) (G := G) (sv := sv) (rf := 0) (zs := zs) (ac := ac) (sp := sp) (ou := ou) (mt := mt) (N := E σ) (dy := dy) (kp := kp) (ik := ik) hP hj j 0 (by omega) (by omega) 5000 5000 κ1 σ1 B jO (by omega) (by omega) hO1.1 hO1.2.1
        rw [Nat.sub_zero] at t2
        refine ⟨0, T', B', vp_updL Q 0 r.toInt64, r, T2, O2, ?_, ?_, fun _ => by simp [vp_updL]⟩
        · unfold fL_runScript
          rw [hx, if_neg (fun e => hz ((lgc _ 0).1.mp e)), without_c hP hj, Option.bind_some, if_pos (ec.mpr hp), c1, Option.bind_some]
          show (fX3_runScript_62 la cn us ch (E κ) G sv (nI j) (nL P) 5000 (nI 0) (E κ1) B).bind _ = _
          rw [t1]
          rfl
        · unfold fX4_runScript_32
          rw [show (1 : Int64) = (nI 1).toInt64 from by decide, show (3 : Int64) = (nI 3).toInt64 from by decide, in_eq, if_pos (show nI 1 ≤ nI j ∧ nI j ≤ nI 3 from ⟨(m_le (by omega) (by omega)).mpr hj1, (m_le (by omega) (by omega)).mpr hj⟩), Option.bind_some, if_neg (show ¬ nI 1 = 0 from by decide), show (nI 1).toInt64 = (1 : Int64) from by decide, inL_eq, e3, if_pos (show 0 ≤ nL P ∧ nL P ≤ nL (1000000 ^ j - 1) from ⟨(nL_le (a := 0) (by omega) hP).mpr (Nat.zero_le _), (nL_le hP (by omega)).mpr (by omega)⟩), Option.bind_some, if_neg (show ¬ nI 1 = 0 from by decide)]
          unfold fX4_runScript_62
          show (some (0, 0)).bind _ = _
          rw [Option.bind_some]
          show (if (0 : Int32) = 0 then (fX4_copyState 220 220 (E σ) jT 0 0).bind _ else _) = _
          rw [if_pos rfl, s1, Option.bind_some]
          exact t2
      · rw [if_neg (fun e => hp (ec.mp e))] at no
        exact no rfl (r32_z hj1 hj (fun e => by
          have := e.2
          rw [e3] at this
          have := (nL_le hP (by omega)).mp this
          omega))
  · have hn : ∀ n, 1 ≤ n → n ≤ 3 → y ≠ nI n := fun n a b e => hy ⟨n, ⟨a, b⟩, e⟩
    refine no ?_ (r6_no hn 4996)
    unfold fX3_runScript
    by_cases g : y < 1
    · rw [if_pos g]
    · rw [if_neg g, if_neg (show ¬ y ≤ 3 from fun e => by
        rcases nI_cases y with ⟨hy, -⟩ | ⟨k, hk, rfl⟩
        · exact g (Int32.lt_trans hy (by decide))
        · have a := (m_le (b := 3) hk (by omega)).mp e
          have b : ¬ k < 1 := fun z => g ((m_lt (b := 1) hk (by omega)).mpr z)
          exact hn k (by omega) a rfl)]
end SCQ
