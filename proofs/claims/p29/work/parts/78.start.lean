/-! THE START: what the tables and the start give; two empty houses -/
abbrev x_N : Cond := Jvm.Cond.and given_1 narrow_1
set_option maxRecDepth 20000 in
theorem msg_in : ∀ q ∈ x_msgs, Cond.stringRef q.1 q.2.1 q.2.2 ∈ lw_tbl := by decide +kernel
set_option maxRecDepth 20000 in
theorem msg_ex : ∀ q ∈ x_msgs, Cond.exactly (.string q.1 q.2.1) "java/lang/String" ∈ flatC x_N := by decide +kernel
set_option maxHeartbeats 4000000 in
set_option maxRecDepth 20000 in
theorem ev_start {args : Array Value} {s : State} {A : Nat → Prop} (hts : ∀ w ∈ lw_tbl, w.before args s = true) (hgv : x_N.before args s = true) (hA : ∀ a : Nat, a < s.heap.size → ¬ A a) : EV A s s.heap := by
  have hs : ∀ w ∈ flatC x_N, w.before args s = true := flat_of_before _ hgv
  have en : EVn s := ⟨va_Nw.of rfl (hts (.methodLinkNest RX3 11 yX2_init "LongCaterpillars") (by decide +kernel)), va_Nw.of rfl (hts (.methodLinkNest RX3 25 yX1_init "LongCaterpillars") (by decide +kernel)), va_Nw.of rfl (hts (.methodLinkNest RX0 66 yX3_isRule "LongCaterpillars") (by decide +kernel)), va_Nw.of rfl (hts (.methodLinkNest RX0 31 yX3_isRoom "LongCaterpillars") (by decide +kernel)), va_Nw.of rfl (hts (.methodLinkNest RX0 59 yX3_isLength "LongCaterpillars") (by decide +kernel)), va_Nw.of rfl (hts (.methodLinkNest RX0 76 yX3_isTicks "LongCaterpillars") (by decide +kernel)), va_Nw.of rfl (hts (.fieldLinkNest RX0 30 "LongCaterpillars$Shelf" "cells" "[I" "LongCaterpillars") (by decide +kernel))⟩
  have ec : EVc s := ⟨va_Nw.of rfl (hts (.castable "java/lang/IllegalArgumentException" "java/lang/IllegalArgumentException") (by decide +kernel)), va_Nw.of rfl (hts (.castable "java/lang/IllegalStateException" "java/lang/IllegalStateException") (by decide +kernel)), va_Nw.of rfl (hts (.castable "java/lang/IndexOutOfBoundsException" "java/lang/IndexOutOfBoundsException") (by decide +kernel)), va_Nc.of (hs (.not (.castable "java/lang/IllegalStateException" "java/lang/IllegalArgumentException")) (by decide +kernel)), va_Nc.of (hs (.not (.castable "java/lang/IllegalArgumentException" "java/lang/IndexOutOfBoundsException")) (by decide +kernel)), va_Nc.of (hs (.not (.castable "java/lang/IllegalStateException" "java/lang/IndexOutOfBoundsException")) (by decide +kernel)), va_Nw.of rfl (hts (.declares (Bundle.initS "java/lang/RuntimeException")) (by decide +kernel)), va_Nw.of rfl (hts (.declares (Bundle.initS "java/lang/Exception")) (by decide +kernel)), va_Nw.of rfl (hts (.declares (Bundle.initS Bundle.tN)) (by decide +kernel))⟩
  have em : EVm s := by
    intro q hq
    obtain ⟨a, c, cA, kA, q1, -⟩ := Cond.exactly_spec (args := args) (first := s) (o := none) (s := s) (idx := []) (t := .string q.1 q.2.1) (cls := "java/lang/String") (hs _ (msg_ex q hq))
    exact ⟨a, vk_R.of (hts _ (msg_in q hq)) q1⟩
  have z1 : vx_Zq Bundle.tN "UNASSIGNED_STACK" Bundle.steD A s s.heap := vx_Zqof (hts (.laysStatic Bundle.tN "UNASSIGNED_STACK" Bundle.steD) (by decide +kernel)) (hts (.initialized Bundle.tN) (by decide +kernel)) (hs (.isRef (.static Bundle.tN "UNASSIGNED_STACK" Bundle.steD)) (by decide +kernel)) hA
  have z2 : vx_Zq Bundle.tN "SUPPRESSED_SENTINEL" Bundle.listD A s s.heap := vx_Zqof (hts (.laysStatic Bundle.tN "SUPPRESSED_SENTINEL" Bundle.listD) (by decide +kernel)) (hts (.initialized Bundle.tN) (by decide +kernel)) (hs (.isRef (.static Bundle.tN "SUPPRESSED_SENTINEL" Bundle.listD)) (by decide +kernel)) hA
  exact ⟨en, z1, z2, em, ec, fun _ => 0, fun _ => 0, trivial⟩
theorem kn_start {args : Array Value} {s : State} (hts : ∀ w ∈ lw_tbl, w.before args s = true) : ∃ (D : va_G) (cI cB cL : ClassId), va_K D vwCl (tyK cI cB cL) s := by
  obtain ⟨c0, i0, h0⟩ := u_known (C := RX0) (T := TX0) (N := 1) (n := 1) hts inX0 (hts (.instantiable RX0 1) (by decide +kernel))
  obtain ⟨c1, i1, h1⟩ := u_known (C := RX1) (T := TX1) (N := 1) (n := 1) hts inX1 (hts (.instantiable RX1 1) (by decide +kernel))
  obtain ⟨c2, i2, h2⟩ := u_known (C := RX2) (T := TX2) (N := 2) (n := 2) hts inX2 (hts (.instantiable RX2 2) (by decide +kernel))
  obtain ⟨c3, i3, h3⟩ := u_known (C := RX3) (T := TX3) (N := 8) (n := 8) hts inX3 (hts (.instantiable RX3 8) (by decide +kernel))
  obtain ⟨cI, a1, a2⟩ := arr_known rfl (hts (.arrayClass .int) (by decide +kernel))
  obtain ⟨cB, b1, b2⟩ := arr_known rfl (hts (.arrayClass .boolean) (by decide +kernel))
  refine ⟨(fun k => if k = 0 then c0 else if k = 1 then c1 else if k = 2 then c2 else c3, fun k => if k = 0 then i0 else if k = 1 then i1 else if k = 2 then i2 else i3), cI, cB, cI, fun k q hq => ?_, fun k q hq => ?_⟩
  · match k, hq with
    | 0, hq => cases hq; exact h0
    | 1, hq => cases hq; exact h1
    | 2, hq => cases hq; exact h2
    | 3, hq => cases hq; exact h3
    | k + 4, hq => simp [vwCl] at hq
  · match k, hq with
    | 0, hq => cases hq; exact ⟨a1, a2⟩
    | 1, hq => cases hq; exact ⟨b1, b2⟩
    | k + 2, hq => simp [tyK] at hq
section EMP
variable {κ τ : Nat → Nat} {C : Nat → Int32}
def z40 (κ : Nat → Nat) : Nat → Nat := fun x => if x < 40 then 0 else if x < 256 then 4294967295 else κ x
def z220 (τ : Nat → Nat) : Nat → Nat := fun x => if x < 220 then 0 else τ x
theorem zz_OKS {κ τ : Nat → Nat} : OKS 0 (z40 κ) (z220 τ) := by
  have a0 : z220 τ 0 = 0 := rfl
  have zt : ∀ x, x < 220 → z220 τ x = 0 := fun x hx => if_pos hx
  refine ⟨⟨rfl, rfl, rfl, rfl, fun k hk => ?_, fun k hk => ?_, fun i w hi _ => ?_, fun i p hi _ => ?_, fun i hi hi2 => ?_⟩, ⟨by omega, by rw [zt 2 (by omega)]; omega, fun k hk => by rw [zt _ (by omega)]; omega, fun i hi => by omega, fun i j p q hi => by omega⟩, fun i hi => by omega, by rw [zt 1 (by omega)]; omega⟩
  · rw [zt _ (by omega)]
    unfold z40
    rw [if_pos (by omega)]
  · unfold z40 tk
    rw [if_neg (by omega), if_pos (by omega), a0]
    rfl
  · omega
  · omega
  · unfold z40
    rw [if_neg (by omega), if_pos (by omega)]
def zC (C : Nat → Int32) (j : Nat) : Nat → Int32 := fun x => if x < j then (if x < 40 then 0 else -1) else C x
theorem emp2 : ∀ n j, j ≤ 256 → 256 - j < n → fX0_empty_2 n (nI j) (zC C j) = some (zC C 256) := by
  intro n
  induction n with
  | zero => intro j _ h; omega
  | succ n ih =>
    intro j hj hn
    rw [fX0_empty_2]
    have st : ∀ z : Int32, (if j < 40 then 0 else -1) = z → upd (zC C j) j z = zC C (j + 1) := by
      intro z hz
      funext x
      unfold upd zC
      by_cases g : x = j
      · rw [if_pos g, if_pos (by omega), g, hz]
      · rw [if_neg g]
        by_cases g2 : x < j
        · rw [if_pos g2, if_pos (show x < j + 1 by omega)]
        · rw [if_neg g2, if_neg (show ¬ x < j + 1 by omega)]
    by_cases h1 : 256 ≤ j
    · rw [if_pos (show 256 ≤ nI j from (m_le (a := 256) (by omega) (by omega)).mpr h1), show j = 256 by omega]
    · rw [if_neg (show ¬ 256 ≤ nI j from fun e => h1 ((m_le (a := 256) (by omega) (by omega)).mp e))]
      unfold fX0_empty_25
      rw [m_gd (by omega) (by omega), m_gd (by omega) (by omega), m_cl (by omega), s1p]
      by_cases h2 : 40 ≤ j
      · rw [if_pos (show 40 ≤ nI j from (m_le (a := 40) (by omega) (by omega)).mpr h2), st (-1) (if_neg (by omega))]
        exact ih (j + 1) (by omega) (by omega)
      · rw [if_neg (show ¬ 40 ≤ nI j from fun e => h2 ((m_le (a := 40) (by omega) (by omega)).mp e)), st 0 (if_pos (by omega))]
        exact ih (j + 1) (by omega) (by omega)
theorem empty_c {κ : Nat → Nat} : fX0_empty (E κ) = some (E (z40 κ)) := by
  have e0 : zC (E κ) 0 = E κ := by
    funext x
    unfold zC
    rw [if_neg (by omega)]
  have e1 : zC (E κ) 256 = E (z40 κ) := by
    funext x
    unfold zC E z40
    by_cases g : x < 40
    · rw [if_pos (by omega), if_pos g, if_pos g]; rfl
    · rw [if_neg g, if_neg g]
      by_cases g2 : x < 256
      · rw [if_pos g2, if_pos g2]; decide
      · rw [if_neg g2, if_neg g2]
  have := emp2 (C := E κ) 5000 0 (by omega) (by omega)
  rw [e0, e1] at this
  exact this
end EMP
theorem e0_start : fX0_empty (fun _ => 0) = some (E (z40 fun _ => 0)) := empty_c (κ := fun _ => 0)
theorem zz_OKX {κ τ : Nat → Nat} : OKX 0 (z40 κ) (z220 τ) := by
  have a0 : z220 τ 0 = 0 := rfl
  refine ⟨zz_OKS, ⟨fun i hi => by omega, ?_, fun i p hi => by omega⟩, fun i hi => by omega⟩
  rw [a0]
  rfl
theorem hs_start (G : Nat → Int32) : HS 0 (z220 fun _ => 0) [] (fun _ => none) 0 0 (E (z40 fun _ => 0)) G (fun _ => 0) := ⟨by simp, ⟨0, z40 fun _ => 0, by omega, rfl, rfl, rfl, zz_OKX, fun j τ e => by simp at e⟩, fun s _ => Or.inl ⟨rfl, rfl⟩⟩
