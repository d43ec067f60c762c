section BPQ
variable {σ κ : Nat → Nat} {m : Nat} {la cn us : Int32} {ch : Nat → Int32} {G sv T B : Nat → Int32} {rf zs ac sp ou : Int32} {mt jT jO dy kp ik : Nat → Int32}
theorem q_bestPull (hO : OKS m κ σ) : ∃ v T' B' T2 O2, fX3_bestPull la cn us ch (E κ) G sv T B = some (v, T', B') ∧ fX4_bestPull rf zs ac sp ou mt (E σ) jT jO dy kp ik = some (v, 0, T2, O2) := by
  have h0 := hO.2.1.1
  obtain ⟨σo, c1, hs⟩ := copy_E σ jO
  have hO' := hO.congr (σ' := σo) (fun _ _ => rfl) hs
  have W := ticks_WF 200 _ hO'.2.1
  obtain ⟨κ', m', a1, a2, a3, a4⟩ := ahead_h (la := la) (cn := cn) (us := us) (ch := ch) (G := G) (sv := sv) (T := T) (B := B) hO'.1 hO'.2.1
  have eg : gb (ticksN σo m') = gb (ticksN σo 200) := by
    funext i
    unfold gb
    rw [ticks_0, ticks_0, a4.at0 i]
  have e1 := goneSet_c a3 (ticks_WF m' _ hO'.2.1)
  rw [eg] at e1
  obtain ⟨v, T', B', T2, b1, b2⟩ := bp_loop (la := la) (cn := cn) (us := us) (ch := ch) (G := G) (sv := sv) (rf := 0) hO W ((ticks_0 200 σo).trans (hs 0 (by omega))) (σ 0) 0 (by omega) (by omega) 5000 5000 (-1) (-1) (-1) 0 T (E κ') jT (by omega) (by omega) ⟨rfl, Or.inl ⟨rfl, rfl⟩⟩
  refine ⟨v, T', B', T2, E (ticksN σo 200), ?_, ?_⟩
  · unfold fX3_bestPull
    rw [a2, Option.bind_some]
    dsimp only
    rw [e1, Option.bind_some]
    exact b1
  · unfold fX4_bestPull
    rw [c1, Option.bind_some, show (200 : Int32) = nI 200 from rfl, ticksOn_E hO'.2.1 (by omega), Option.bind_some]
    dsimp only
    rw [show (2 : Int32) = nI 2 from rfl, count_E W (by omega), Option.bind_some]
    exact b2
end BPQ
