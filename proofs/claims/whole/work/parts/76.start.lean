/-! THE START: what the tables and the start give -/
section STA
theorem OF_uniq {o n d : String} {v w : Value} {t : Nat} {A B : Nat → Prop} {U : State} {H : Heap} (h : va_OF o n d v t A U H) (h2 : va_OF o n d w t B U H) : v = w := by
  obtain ⟨cf, k, i, f, cell, g1, -, g3, -, g5, -⟩ := h
  obtain ⟨cf2, k2, i2, f2, cell2, q1, -, q3, -, q5, -⟩ := h2
  rw [g1] at q1
  have e := Option.some.inj q1
  simp only [Prod.mk.injEq] at e
  obtain ⟨-, -, -, e4⟩ := e
  rw [g3] at q3
  have e5 := Option.some.inj q3
  rw [← e4, ← e5, g5] at q5
  exact Option.some.inj q5
theorem T_uniq {ty : FieldType} {t N M : Nat} {f g : Nat → Value} {A B : Nat → Prop} {U : State} {H : Heap} (hN : N < 2147483648) (hM : M < 2147483648) (h : va_T ty t N f A U H) (h2 : va_T ty t M g B U H) : N = M ∧ ∀ j, j < N → f j = g j := by
  obtain ⟨cell, g1, -, -, -, g5, g6, -⟩ := h
  obtain ⟨cell2, q1, -, -, -, q5, q6, -⟩ := h2
  rw [g1] at q1
  have e5 := Option.some.inj q1
  rw [← e5] at q5 q6
  have e : N = M := (m_eq (by omega) (by omega)).mp (show nI N = nI M from g5.symm.trans q5)
  refine ⟨e, fun j hj => ?_⟩
  have a := g6 j hj
  have b := q6 j (by omega)
  rw [a] at b
  exact Option.some.inj b
def x_tm : List Nat := [30, 54, 56, 58, 60, 62]
abbrev x_S (i : Nat) : Term := .string RX2 (x_tm.getD i 0)
abbrev x_N : Cond := Jvm.Cond.and given_1 narrow_1
set_option maxRecDepth 20000 in
theorem x_ex : ∀ i : Nat, i < 6 → Cond.exactly (x_S i) "java/lang/String" ∈ flatC x_N := by decide +kernel
set_option maxRecDepth 20000 in
theorem x_co : ∀ i : Nat, i < 6 → Cond.eq (.field (x_S i) "java/lang/String" "coder" "B") (.int 0) ∈ flatC x_N := by decide +kernel
set_option maxRecDepth 20000 in
theorem x_ar : ∀ i : Nat, i < 6 → Cond.arrayOf (.field (x_S i) "java/lang/String" "value" "[B") .byte ∈ flatC x_N := by decide +kernel
set_option maxRecDepth 20000 in
theorem x_le : ∀ i : Nat, i < 6 → Cond.eq (.length (.field (x_S i) "java/lang/String" "value" "[B")) (.int (Int32.ofNat (x_shl.getD i 0))) ∈ flatC x_N := by decide +kernel
set_option maxRecDepth 20000 in
theorem x_el : ∀ i : Nat, i < 6 → ∀ j : Nat, j < x_shl.getD i 0 → Cond.eq (.elem (.field (x_S i) "java/lang/String" "value" "[B") (.int (Int32.ofNat j))) (.int ((x_shb.getD i []).getD j 0)) ∈ flatC x_N := by decide +kernel
theorem x_df : ∀ i : Nat, i < 6 → ∀ j : Nat, j < 6 → i ≠ j → x_shl.getD i 0 ≠ x_shl.getD j 0 ∨ (0 < x_shl.getD i 0 ∧ (x_shb.getD i []).getD 0 0 ≠ (x_shb.getD j []).getD 0 0) := by decide
theorem x_sm : ∀ i : Nat, i < 6 → x_shl.getD i 0 < 2147483648 := by decide
theorem shp_start {args : Array Value} {s : State} {A : Nat → Prop} (hs : ∀ w ∈ flatC x_N, w.before args s = true) (hA : ∀ a : Nat, a < s.heap.size → ¬ A a) : ∃ adK adV : Nat → Nat, vk_S 6 x_shl x_shb adK adV A s s.heap ∧ ∀ i : Nat, i < 6 → (x_S i).eval args s none [] s = some (.ref (adK i)) := by
  have h0 : ∀ i : Nat, ∃ q : Nat × Nat, i < 6 → (x_S i).eval args s none [] s = some (.ref q.1) ∧ va_O "java/lang/String" q.1 A s s.heap ∧ va_OF "java/lang/String" "coder" "B" (.int 0) q.1 A s s.heap ∧ va_OF "java/lang/String" "value" "[B" (.ref q.2) q.1 A s s.heap ∧ va_T .byte q.2 (x_shl.getD i 0) (fun j => .int ((x_shb.getD i []).getD j 0)) A s s.heap := by
    intro i
    by_cases hi : i < 6
    · obtain ⟨aK, aV, g, ge⟩ := vk_Sof (args := args) (s := s) (N := 1) (tm := fun _ => x_S i) (len := [x_shl.getD i 0]) (byt := [x_shb.getD i []]) (A := A)
        (fun j hj => by
          obtain rfl : j = 0 := by omega
          exact x_sm i hi)
        (fun j hj => hs _ (x_ex i hi)) (fun j hj => hs _ (x_co i hi)) (fun j hj => hs _ (x_ar i hi))
        (fun j hj => by
          obtain rfl : j = 0 := by omega
          exact hs _ (x_le i hi))
        (fun j hj k hk => by
          obtain rfl : j = 0 := by omega
          exact hs _ (x_el i hi k hk))
        (fun j k hj hk hne => absurd (show j = k by omega) hne) hA
      obtain ⟨g1, g2, g3, g4⟩ := g.1 0 (by omega)
      exact ⟨(aK 0, aV 0), fun _ => ⟨ge 0 (by omega), g1, g2, g3, g4⟩⟩
    · exact ⟨(0, 0), fun h => absurd h hi⟩
  obtain ⟨ad, had⟩ := Classical.axiomOfChoice h0
  refine ⟨fun i => (ad i).1, fun i => (ad i).2, ⟨fun i hi => (had i hi).2, fun i j hi hj e => ?_⟩, fun i hi => (had i hi).1⟩
  by_cases hij : i = j
  · exact hij
  · obtain ⟨-, -, -, a4, a5⟩ := had i hi
    obtain ⟨-, -, -, b4, b5⟩ := had j hj
    have e : (ad i).1 = (ad j).1 := e
    rw [← e] at b4
    have ev := OF_uniq a4 b4
    have e2 : (ad i).2 = (ad j).2 := by injection ev
    rw [← e2] at b5
    obtain ⟨n1, n2⟩ := T_uniq (x_sm i hi) (x_sm j hj) a5 b5
    rcases x_df i hi j hj hij with d | ⟨d1, d2⟩
    · exact absurd n1 d
    · have n3 := n2 0 d1
      have n4 : (x_shb.getD i []).getD 0 0 = (x_shb.getD j []).getD 0 0 := by injection n3
      exact absurd n4 d2
set_option maxRecDepth 20000 in
theorem msg_in : ∀ q ∈ x_msgs, Cond.stringRef q.1 q.2.1 q.2.2 ∈ lw_tbl := by decide +kernel
set_option maxRecDepth 20000 in
theorem msg_ex : ∀ q ∈ x_msgs, Cond.exactly (.string q.1 q.2.1) "java/lang/String" ∈ flatC x_N := by decide +kernel
set_option maxHeartbeats 4000000 in
set_option maxRecDepth 20000 in
theorem ev_start {args : Array Value} {s : State} {A : Nat → Prop} (hts : ∀ w ∈ lw_tbl, w.before args s = true) (hgv : x_N.before args s = true) (hA : ∀ a : Nat, a < s.heap.size → ¬ A a) : EV A s s.heap := by
  have hs : ∀ w ∈ flatC x_N, w.before args s = true := flat_of_before _ hgv
  obtain ⟨adK, adV, hS, hev⟩ := shp_start hs hA
  have en : EVn s := ⟨va_Nw.of rfl (hts (.methodLinkNest RX3 11 yX2_init "LongCaterpillars") (by decide +kernel)), va_Nw.of rfl (hts (.methodLinkNest RX3 25 yX1_init "LongCaterpillars") (by decide +kernel)), va_Nw.of rfl (hts (.methodLinkNest RX0 66 yX3_isRule "LongCaterpillars") (by decide +kernel)), va_Nw.of rfl (hts (.methodLinkNest RX0 31 yX3_isRoom "LongCaterpillars") (by decide +kernel)), va_Nw.of rfl (hts (.methodLinkNest RX0 59 yX3_isLength "LongCaterpillars") (by decide +kernel)), va_Nw.of rfl (hts (.methodLinkNest RX0 76 yX3_isTicks "LongCaterpillars") (by decide +kernel)), va_Nw.of rfl (hts (.fieldLinkNest RX0 30 "LongCaterpillars$Shelf" "cells" "[I" "LongCaterpillars") (by decide +kernel))⟩
  have ec : EVc s := ⟨va_Nw.of rfl (hts (.castable "java/lang/IllegalArgumentException" "java/lang/IllegalArgumentException") (by decide +kernel)), va_Nw.of rfl (hts (.castable "java/lang/IllegalStateException" "java/lang/IllegalStateException") (by decide +kernel)), va_Nw.of rfl (hts (.castable "java/lang/IndexOutOfBoundsException" "java/lang/IndexOutOfBoundsException") (by decide +kernel)), va_Nc.of (hs (.not (.castable "java/lang/IllegalStateException" "java/lang/IllegalArgumentException")) (by decide +kernel)), va_Nc.of (hs (.not (.castable "java/lang/IllegalArgumentException" "java/lang/IndexOutOfBoundsException")) (by decide +kernel)), va_Nc.of (hs (.not (.castable "java/lang/IllegalStateException" "java/lang/IndexOutOfBoundsException")) (by decide +kernel)), va_Nw.of rfl (hts (.declares (Bundle.initS "java/lang/RuntimeException")) (by decide +kernel)), va_Nw.of rfl (hts (.declares (Bundle.initS "java/lang/Exception")) (by decide +kernel)), va_Nw.of rfl (hts (.declares (Bundle.initS Bundle.tN)) (by decide +kernel))⟩
  have em : EVm s := by
    intro q hq
    obtain ⟨a, c, cA, kA, q1, -⟩ := Cond.exactly_spec (args := args) (first := s) (o := none) (s := s) (idx := []) (t := .string q.1 q.2.1) (cls := "java/lang/String") (hs _ (msg_ex q hq))
    exact ⟨a, vk_R.of (hts _ (msg_in q hq)) q1⟩
  have er : EVr adK s := ⟨vk_R.of (hts (.stringRef RX2 30 "") (by decide +kernel)) (hev 0 (by omega)), vk_R.of (hts (.stringRef RX2 54 "RrRrl") (by decide +kernel)) (hev 1 (by omega)), vk_R.of (hts (.stringRef RX2 56 "Tt") (by decide +kernel)) (hev 2 (by omega)), vk_R.of (hts (.stringRef RX2 58 "Rr") (by decide +kernel)) (hev 3 (by omega)), vk_R.of (hts (.stringRef RX2 60 "w") (by decide +kernel)) (hev 4 (by omega)), vk_R.of (hts (.stringRef RX2 62 "c") (by decide +kernel)) (hev 5 (by omega))⟩
  have z1 : vx_Zq Bundle.tN "UNASSIGNED_STACK" Bundle.steD A s s.heap := vx_Zqof (hts (.laysStatic Bundle.tN "UNASSIGNED_STACK" Bundle.steD) (by decide +kernel)) (hts (.initialized Bundle.tN) (by decide +kernel)) (hs (.isRef (.static Bundle.tN "UNASSIGNED_STACK" Bundle.steD)) (by decide +kernel)) hA
  have z2 : vx_Zq Bundle.tN "SUPPRESSED_SENTINEL" Bundle.listD A s s.heap := vx_Zqof (hts (.laysStatic Bundle.tN "SUPPRESSED_SENTINEL" Bundle.listD) (by decide +kernel)) (hts (.initialized Bundle.tN) (by decide +kernel)) (hs (.isRef (.static Bundle.tN "SUPPRESSED_SENTINEL" Bundle.listD)) (by decide +kernel)) hA
  have z3 : va_Z "java/lang/String" "COMPACT_STRINGS" "Z" (.int 1) A s s.heap := va_Zof (hts (.laysStatic "java/lang/String" "COMPACT_STRINGS" "Z") (by decide +kernel)) (hts (.initialized "java/lang/String") (by decide +kernel)) (va_eqt (hs (.eq (.static "java/lang/String" "COMPACT_STRINGS" "Z") (.int 1)) (by decide +kernel))) hA
  have z4 : va_Zq "jdk/internal/util/Preconditions" "SIOOBE_FORMATTER" "Ljava/util/function/BiFunction;" A s s.heap := va_Zqof (hts (.laysStatic "jdk/internal/util/Preconditions" "SIOOBE_FORMATTER" "Ljava/util/function/BiFunction;") (by decide +kernel)) (hts (.initialized "jdk/internal/util/Preconditions") (by decide +kernel)) (hs (.isRef (.static "jdk/internal/util/Preconditions" "SIOOBE_FORMATTER" "Ljava/util/function/BiFunction;")) (by decide +kernel)) hA
  exact ⟨en, z1, z2, em, ec, adK, adV, hS, z3, er, z4⟩
theorem kn_start {args : Array Value} {s : State} (hts : ∀ w ∈ lw_tbl, w.before args s = true) : ∃ (D : va_G) (cI cB cL : ClassId), va_K D vwCl (tyK cI cB cL) s := by
  obtain ⟨c0, i0, h0⟩ := u_known (C := RX0) (T := TX0) (N := 1) (n := 1) hts inX0 (hts (.instantiable RX0 1) (by decide +kernel))
  obtain ⟨c1, i1, h1⟩ := u_known (C := RX1) (T := TX1) (N := 1) (n := 1) hts inX1 (hts (.instantiable RX1 1) (by decide +kernel))
  obtain ⟨c2, i2, h2⟩ := u_known (C := RX2) (T := TX2) (N := 2) (n := 2) hts inX2 (hts (.instantiable RX2 2) (by decide +kernel))
  obtain ⟨c3, i3, h3⟩ := u_known (C := RX3) (T := TX3) (N := 8) (n := 8) hts inX3 (hts (.instantiable RX3 8) (by decide +kernel))
  obtain ⟨c4, i4, h4⟩ := u_known (C := RX4) (T := TX4) (N := 12) (n := 12) hts inX4 (hts (.instantiable RX4 12) (by decide +kernel))
  obtain ⟨cI, a1, a2⟩ := arr_known rfl (hts (.arrayClass .int) (by decide +kernel))
  obtain ⟨cB, b1, b2⟩ := arr_known rfl (hts (.arrayClass .boolean) (by decide +kernel))
  obtain ⟨cL, l1, l2⟩ := arr_known rfl (hts (.arrayClass .long) (by decide +kernel))
  refine ⟨(fun k => if k = 0 then c0 else if k = 1 then c1 else if k = 2 then c2 else if k = 3 then c3 else c4, fun k => if k = 0 then i0 else if k = 1 then i1 else if k = 2 then i2 else if k = 3 then i3 else i4), cI, cB, cL, fun k q hq => ?_, fun k q hq => ?_⟩
  · match k, hq with
    | 0, hq => cases hq; exact h0
    | 1, hq => cases hq; exact h1
    | 2, hq => cases hq; exact h2
    | 3, hq => cases hq; exact h3
    | 4, hq => cases hq; exact h4
    | k + 5, hq => simp [vwCl] at hq
  · match k, hq with
    | 0, hq => cases hq; exact ⟨a1, a2⟩
    | 1, hq => cases hq; exact ⟨b1, b2⟩
    | 2, hq => cases hq; exact ⟨l1, l2⟩
    | k + 3, hq => simp [tyK] at hq
theorem st_start : ST 0 0 0 (E (z40 fun _ => 0)) (fun _ => 0) (fun _ => 0) 0 (E (z220 fun _ => 0)) (fun _ => 0) (fun _ => 0) (fun _ => 0) := ⟨0, 0, _, _, rfl, rfl, rfl, rfl, rfl, zz_OKS, ⟨by omega, by omega, fun j hj => by omega⟩, fun s hs => ⟨rfl, fun z => absurd rfl z⟩⟩
theorem tx_start : TX 0 (fun _ => 0) 0 (fun _ => 0) := ⟨0, fun _ => 0, by omega, rfl, rfl, fun j hj => by omega⟩
theorem e0_start : fX0_empty (fun _ => 0) = some (E (z40 fun _ => 0)) := empty_c (κ := fun _ => 0)
theorem n0_start : fX4_clear (fun _ => 0) = some (E (z220 fun _ => 0)) := clear_z (τ := fun _ => 0)
end STA
