/-! COMMANDS: what they answer, and the joint state after them -/
section GTS
variable {σ τ κ : Nat → Nat} {d i k w v x m m2 a b : Nat}
theorem act_GT (hW : WF σ) (hi : i < σ 0) (h : GTd 1 σ) : GTd 1 (act σ i) := by
  have h0 := hW.1
  have e0 : act σ i 0 = σ 0 := act_0 (by omega) (by omega)
  have e1 : act σ i 1 = σ 1 := act_0 (by omega) (by omega)
  intro j hj g
  rw [e0] at hj
  rw [e1]
  by_cases z : j = i
  · subst z
    unfold act at g ⊢
    cases ge : eats σ j
    · rw [ge, if_neg (show ¬ (false = true) from by decide)] at g
      rw [if_neg (show ¬ (false = true) from by decide)]
      by_cases gw : wants σ j = 4294967295
      · rw [if_pos gw] at g ⊢
        exact h j hj g
      · have h1 := wants_1 gw
        rw [if_neg gw] at g ⊢
        cases gf : fr σ (wants σ j)
        · rw [gf, if_neg (show ¬ (false = true) from by decide)] at g
          unfold waitN at g
          rw [upN_ne (by omega), upN_ne (by omega)] at g
          omega
        · rw [gf, if_pos rfl, go_0] at g
          omega
    · rw [ge, if_pos rfl] at g
      rw [if_pos rfl]
      rw [eat_0] at g
      rw [eat_5]
      have := eats_1 ge
      by_cases q : eat2 σ j (40 + 18 * j + 1) = 0
      · rw [if_pos q]; omega
      · rw [if_neg q] at g; omega
  · have a1 := act_j (σ := σ) (i := i) (j := j) (w := 0) z (by omega)
    have a5 := act_j (σ := σ) (i := i) (j := j) (w := 5) z (by omega)
    rw [a5]
    exact h j hj (a1.symm.trans g)
theorem acts_GT : ∀ n i (σ : Nat → Nat), WF σ → i + n ≤ σ 0 → GTd 1 σ → GTd 1 (actsN σ n i) := by
  intro n
  induction n with
  | zero => intro i σ _ _ h; exact h
  | succ n ih =>
    intro i σ hW hi h
    exact ih (i + 1) _ (act_WF hW (by omega)) (by rw [act_0 (by omega) (by omega)]; omega) (act_GT hW (by omega) h)
theorem tick_GT (hW : WF σ) (h : GTd 0 σ) : GTd 0 (tickN σ) := by
  have h1 := acts_GT (σ 0) 0 σ hW (by omega) (fun i hi g => by have := h i hi g; omega)
  have e0 : actsN σ (σ 0) 0 0 = σ 0 := actsN_lo (by omega) (by omega) _ _ _
  have e1 : actsN σ (σ 0) 0 1 = σ 1 := actsN_lo (by omega) (by omega) _ _ _
  intro i hi g
  unfold tickN at hi g ⊢
  rw [upN_ne (by omega)] at hi g
  rw [upN_ne (by omega), upN_same]
  have := h1 i hi g
  rw [e1] at this
  exact this
theorem ticks_GT : ∀ n (σ : Nat → Nat), WF σ → GTd 0 σ → GTd 0 (ticksN σ n) := by
  intro n
  induction n with
  | zero => intro σ _ h; exact h
  | succ n ih => intro σ hW h; exact ih _ (tick_WF hW) (tick_GT hW h)
theorem hat_GT (h : GTd 0 σ) (c f n : Nat) : GTd 0 (hatN σ c f n) := by
  intro i hi g
  rw [hat_0] at hi
  rw [hat_lo (x := 1) c f n (by omega) (by omega)]
  by_cases z : i = σ 0
  · subst z
    have := hat_w (σ := σ) c f n (w := 0) (by omega)
    rw [Nat.add_zero] at this
    rw [this] at g
    simp at g
  · have a0 := hat_j (σ := σ) c f n z (w := 0) (by omega)
    rw [hat_j (w := 5) c f n z (by omega)]
    exact h i (by omega) (a0.symm.trans g)
theorem rule_GT (h : GTd 0 σ) : GTd 0 (upN σ 2 v) := by
  intro i hi g
  rw [upN_ne (by omega)] at hi g
  rw [upN_ne (by omega), upN_ne (by omega)]
  exact h i hi g
theorem shut_GT (h : GTd 0 σ) (hk : k < 36) : GTd 0 (upN σ (4 + k) v) := by
  intro i hi g
  rw [upN_ne (by omega)] at hi g
  rw [upN_ne (by omega), upN_ne (by omega)]
  exact h i hi g
theorem pull_GT (h : GTd 0 σ) : GTd 0 (pulN σ i) := by
  intro j hj g
  rw [pul_o (by omega) (by omega) (by omega)] at hj
  by_cases z : j = i
  · subst z
    rw [pul_0] at g; omega
  · rw [pul_o (by omega) (by omega) (by omega)] at g
    rw [pul_o (by omega) (by omega) (by omega), pul_o (by omega) (by omega) (by omega)]
    exact h j hj g
end GTS
section CMD
variable {σ τ κ : Nat → Nat} {d i k w v x m m2 a b : Nat} {la cn us : Int32} {ch : Nat → Int32} {C G sv T B : Nat → Int32} {O : Nat → Int64} {rf zs ac sp ou : Int32} {mt N jT jO dy kp ik : Nat → Int32}
def CM (m : Nat) (o : Option (Int32 × Int32 × Int32 × (Nat → Int32) × (Nat → Int32) × (Nat → Int64))) (q : Option (Int32 × Int32 × Int32 × (Nat → Int32) × (Nat → Int32))) (sv kp ik : Nat → Int32) : Prop := ∃ e la' cn' C' G' O' r ac' N' dy', o = some (e, la', cn', C', G', O') ∧ q = some (r, e, ac', N', dy') ∧ (e = 0 → O' 0 = r.toInt64) ∧ ST m la' cn' C' G' sv ac' N' dy' kp ik
theorem ST.mono (h : ST m la cn C G sv ac N dy kp ik) (hm : m ≤ m2) : ST m2 la cn C G sv ac N dy kp ik := by
  obtain ⟨a, b, κ, σ, e1, e2, e3, e4, e5, hO, hH, hS⟩ := h
  exact ⟨a, b, κ, σ, e1, e2, e3, e4, e5, hO.mono hm, hH.mono hm, hS.mono hm⟩
theorem cm_no {o : Option (Int32 × Int32 × Int32 × (Nat → Int32) × (Nat → Int32) × (Nat → Int64))} {q : Option (Int32 × Int32 × Int32 × (Nat → Int32) × (Nat → Int32))} {e r : Int32} (h : ST m la cn C G sv ac N dy kp ik) (he : e ≠ 0) (h1 : o = some (e, la, cn, C, G, O)) (h2 : q = some (r, e, ac, N, dy)) : CM (m + 60) o q sv kp ik := ⟨e, la, cn, C, G, O, r, ac, N, dy, h1, h2, fun z => absurd z he, h.mono (by omega)⟩
theorem cm_ok {o : Option (Int32 × Int32 × Int32 × (Nat → Int32) × (Nat → Int32) × (Nat → Int64))} {q : Option (Int32 × Int32 × Int32 × (Nat → Int32) × (Nat → Int32))} {r : Int32} {κ' σ' : Nat → Nat} (hO : OKS (m + 60) κ' σ') (hH : Hist m G dy a b) (hS : Slots m G sv kp ik) (h1 : o = some (0, nI b, nI a, E κ', G, vp_updL O 0 r.toInt64)) (h2 : q = some (r, 0, nI a, E σ', dy)) : CM (m + 60) o q sv kp ik := ⟨0, _, _, _, _, _, r, _, _, _, h1, h2, fun _ => by simp [vp_updL], a, b, κ', σ', rfl, rfl, rfl, rfl, rfl, hO, hH.mono (by omega), hS.mono (by omega)⟩
theorem len_of (y : Int32) : (∃ n, (1 ≤ n ∧ n ≤ 9) ∧ y = nI n) ∨ (∀ n, 1 ≤ n → n ≤ 9 → y ≠ nI n) := by
  by_cases h : ∃ n, (1 ≤ n ∧ n ≤ 9) ∧ y = nI n
  · exact Or.inl h
  · exact Or.inr fun n h1 h2 e => h ⟨n, ⟨h1, h2⟩, e⟩
theorem tic_of (y : Int32) : (∃ n, (1 ≤ n ∧ n ≤ 60) ∧ y = nI n) ∨ (∀ n, 1 ≤ n → n ≤ 60 → y ≠ nI n) := by
  by_cases h : ∃ n, (1 ≤ n ∧ n ≤ 60) ∧ y = nI n
  · exact Or.inl h
  · exact Or.inr fun n h1 h2 e => h ⟨n, ⟨h1, h2⟩, e⟩
theorem c_hatch (h : ST m la cn C G sv ac N dy kp ik) (y1 y2 y3 : Int32) : CM (m + 60) (fL_hatch la cn us ch C G sv T B O y1 y2 y3) (fX4_hatch rf zs ac sp ou mt N jT jO dy kp ik y1 y2 y3) sv kp ik := by
  have hST := h
  obtain ⟨a, b, κ, σ, rfl, rfl, rfl, rfl, rfl, hO, hH, hS⟩ := h
  have hR := hO.1
  have hW := hO.2.1
  have h0 := hW.1
  have n0 : ¬ nI 1 = 0 := by decide
  unfold fL_hatch fX3_hatch fX4_hatch
  rcases upto 36 y1 with ⟨c, hc, rfl⟩ | hc
  · rw [isRoom_c hc, isRoom_t hc, Option.bind_some, Option.bind_some, if_neg n0, if_neg n0]
    rcases upto 36 y2 with ⟨f, hf, rfl⟩ | hf
    · rw [isRoom_c hf, isRoom_t hf, Option.bind_some, Option.bind_some, if_neg n0, if_neg n0]
      rcases len_of y3 with ⟨n, ⟨hn1, hn⟩, rfl⟩ | hn
      · rw [isLength_c hn1 hn, isLength_t hn1 hn, Option.bind_some, Option.bind_some, if_neg n0, if_neg n0, isFull_c hR hW, Option.bind_some]
        by_cases g : 10 ≤ σ 0
        · rw [decide_eq_true g, if_neg (show ¬ nI (bN true) = 0 from by decide), if_pos (show 10 ≤ E σ 0 from (m_le (a := 10) (by omega) (by omega)).mpr g)]
          exact cm_no (O := O) (e := 3) (r := 0) hST (by decide) rfl rfl
        · rw [decide_eq_false g, if_pos (show nI (bN false) = 0 from rfl), if_neg (show ¬ 10 ≤ E σ 0 from fun e => g ((m_le (a := 10) (by omega) (by omega)).mp e))]
          obtain ⟨a', b', G', dy', e1, e2, hH', hS'⟩ := rmb (us := us) (ch := ch) (T := T) (B := B) (rf := 0) (zs := zs) (sp := sp) (ou := ou) (mt := mt) (jT := jT) (jO := jO) hO hH hS
          obtain ⟨t1, t2⟩ := add_t hR hW (show σ 0 < 10 by omega) hc hf hn1 hn
          refine cm_ok (O := O) (r := nI (σ 0)) (κ' := addC κ (σ 0) c f n) (σ' := hatN σ c f n) ⟨t2, hat_WF hW (by omega) hc hf hn1 hn, hat_GT hO.2.2.1 _ _ _, ?_⟩ hH' hS' ?_ ?_
          · rw [hat_lo c f n (by omega) (by omega)]
            have := hO.2.2.2
            omega
          · rw [e1, Option.bind_some]
            dsimp only
            rw [t1, Option.bind_some]
            show some (0, nI b', nI a', E (addC κ (σ 0) c f n), G', vp_updL O 0 (nI (addC κ (σ 0) c f n 0) - nI 1).toInt64) = _
            rw [addC_0, m_sub (by omega), Nat.add_sub_cancel]
          · show (some (0, 0)).bind _ = _
            rw [Option.bind_some]
            show (if (0 : Int32) = 0 then (fX4_remember 0 zs (nI a) sp ou mt (E σ) jT jO dy kp ik).bind _ else _) = _
            rw [if_pos rfl, e2, Option.bind_some]
            dsimp only
            rw [hatchOn_E (by omega)]
            rfl
      · rw [isLength_cf hn, isLength_f hn, Option.bind_some, Option.bind_some, if_pos (show nI 0 = 0 from rfl), if_pos (show nI 0 = 0 from rfl)]
        exact cm_no (O := O) (e := 2) (r := 0) hST (by decide) rfl rfl
    · rw [isRoom_cf hf, isRoom_f hf]
      exact cm_no (O := O) (e := 1) (r := 0) hST (by decide) rfl rfl
  · rw [isRoom_cf hc, isRoom_f hc]
    exact cm_no (O := O) (e := 1) (r := 0) hST (by decide) rfl rfl
theorem c_ticks (h : ST m la cn C G sv ac N dy kp ik) (y : Int32) : CM (m + 60) (fL_ticks la cn us ch C G sv T B O y) (fX4_ticks rf zs ac sp ou mt N jT jO dy kp ik y) sv kp ik := by
  have hST := h
  obtain ⟨a, b, κ, σ, rfl, rfl, rfl, rfl, rfl, hO, hH, hS⟩ := h
  have hR := hO.1
  have hW := hO.2.1
  have h0 := hW.1
  have n0 : ¬ nI 1 = 0 := by decide
  unfold fL_ticks fX3_ticks fX4_ticks
  rw [show (1 : Int64) = (nI 1).toInt64 from by decide, show (60 : Int64) = (nI 60).toInt64 from by decide, in_eq]
  rcases tic_of y with ⟨n, ⟨hn1, hn⟩, rfl⟩ | hn
  · rw [isTicks_c hn1 hn, Option.bind_some, Option.bind_some, if_neg n0, if_pos (show nI 1 ≤ nI n ∧ nI n ≤ nI 60 from ⟨(m_le (by omega) (by omega)).mpr hn1, (m_le (by omega) (by omega)).mpr hn⟩), if_neg n0]
    obtain ⟨a', b', G', dy', e1, e2, hH', hS'⟩ := rmb (us := us) (ch := ch) (T := T) (B := B) (rf := 0) (zs := zs) (sp := sp) (ou := ou) (mt := mt) (jT := jT) (jO := jO) hO hH hS
    obtain ⟨κ', t1, t2⟩ := runTicks_c hR hW hn1 hn
    refine cm_ok (O := O) (r := nI (cntN (ticksN σ n) 2 - cntN σ 2)) (κ' := κ') (σ' := ticksN σ n) ⟨t2, ticks_WF _ _ hW, ticks_GT _ _ hW hO.2.2.1, ?_⟩ hH' hS' ?_ ?_
    · rw [ticks_1]
      have := hO.2.2.2
      omega
    · rw [e1, Option.bind_some]
      dsimp only
      rw [show (2 : Int32) = nI 2 from rfl, countWhere_c hR hW (by omega), Option.bind_some, t1, Option.bind_some]
      dsimp only
      rw [countWhere_c t2 (ticks_WF _ _ hW) (by omega), Option.bind_some, m_sub (gone_mono n σ)]
      rfl
    · show (some (0, 0)).bind _ = _
      rw [Option.bind_some]
      show (if (0 : Int32) = 0 then (fX4_remember 0 zs (nI a) sp ou mt (E σ) jT jO dy kp ik).bind _ else _) = _
      rw [if_pos rfl, e2, Option.bind_some]
      dsimp only
      rw [ticksOn_E hW (by omega)]
      rfl
  · rw [isTicks_cf hn, if_neg (show ¬ (nI 1 ≤ y ∧ y ≤ nI 60) from rng_f (by omega) (by omega) hn)]
    exact cm_no (O := O) (e := 1) (r := 0) hST (by decide) rfl rfl
theorem c_rule (h : ST m la cn C G sv ac N dy kp ik) (y : Int32) : CM (m + 60) (fL_rule la cn us ch C G sv T B O y) (fX4_rule rf zs ac sp ou mt N jT jO dy kp ik y) sv kp ik := by
  have hST := h
  obtain ⟨a, b, κ, σ, rfl, rfl, rfl, rfl, rfl, hO, hH, hS⟩ := h
  have hR := hO.1
  have hW := hO.2.1
  have h0 := hW.1
  have n0 : ¬ nI 1 = 0 := by decide
  unfold fL_rule fX3_rule fX4_rule
  rw [show (2 : Int64) = (nI 2).toInt64 from by decide]
  rcases upto 3 y with ⟨n, hn, rfl⟩ | hn
  · rw [isRule_c (by omega), in_t (by omega) (by omega), Option.bind_some, Option.bind_some, if_neg n0, if_neg n0]
    obtain ⟨a', b', G', dy', e1, e2, hH', hS'⟩ := rmb (us := us) (ch := ch) (T := T) (B := B) (rf := 0) (zs := zs) (sp := sp) (ou := ou) (mt := mt) (jT := jT) (jO := jO) hO hH hS
    refine cm_ok (O := O) (r := nI (σ 2)) (κ' := upN κ 1 n) (σ' := upN σ 2 n) ⟨rep_rule hR hW (by omega), rule_WF hW (by omega), rule_GT hO.2.2.1, ?_⟩ hH' hS' ?_ ?_
    · rw [upN_ne (by omega)]
      have := hO.2.2.2
      omega
    · rw [e1, Option.bind_some]
      dsimp only
      rw [setRule_t (by omega)]
      show some (0, nI b', nI a', E (upN κ 1 n), G', vp_updL O 0 (nI (κ 1)).toInt64) = _
      rw [hR.2.1]
    · show (some (0, 0)).bind _ = _
      rw [Option.bind_some]
      show (if (0 : Int32) = 0 then (fX4_remember 0 zs (nI a) sp ou mt (E σ) jT jO dy kp ik).bind _ else _) = _
      rw [if_pos rfl, e2, Option.bind_some]
      dsimp only
      rw [ruleOn_E]
      rfl
  · rw [isRule_cf (fun n h2 => hn n (by omega)), in_f (by omega) (fun n h2 => hn n (by omega))]
    exact cm_no (O := O) (e := 1) (r := 0) hST (by decide) rfl rfl
theorem c_shut (h : ST m la cn C G sv ac N dy kp ik) (y : Int32) (t : Bool) : CM (m + 60) (fL_shut la cn us ch C G sv T B O y (nI (bN t))) (fX4_shut rf zs ac sp ou mt N jT jO dy kp ik y (nI (bN t))) sv kp ik := by
  have hST := h
  obtain ⟨a, b, κ, σ, rfl, rfl, rfl, rfl, rfl, hO, hH, hS⟩ := h
  have hR := hO.1
  have hW := hO.2.1
  have h0 := hW.1
  have n0 : ¬ nI 1 = 0 := by decide
  unfold fL_shut fX3_shut fX4_shut
  rcases upto 36 y with ⟨c, hc, rfl⟩ | hc
  · rw [isRoom_c hc, isRoom_t hc, Option.bind_some, Option.bind_some, if_neg n0, if_neg n0, canShut_E hW hc, Option.bind_some]
    have e42 : (if nI (bN t) = 0 then fX3_shut_42 us ch sv T B (nI c) (nI (bN t)) (nI b) (nI a) (E κ) G else ((fX0_isTaken (E κ) (nI c)).bind fun r_15 => (if r_15 = 0 then fX3_shut_42 us ch sv T B (nI c) (nI (bN t)) (nI b) (nI a) (E κ) G else some (.inl 2)))) = if (!t || tk σ c == 4294967295) = true then fX3_shut_42 us ch sv T B (nI c) (nI (bN t)) (nI b) (nI a) (E κ) G else some (.inl 2) := by
      cases t
      · rw [if_pos (show nI (bN false) = 0 from rfl), if_pos (by rfl)]
      · rw [if_neg (show ¬ nI (bN true) = 0 from by decide), isTaken_c hR hW hc, Option.bind_some]
        by_cases g : tk σ c = 4294967295
        · have q : (tk σ c != 4294967295) = false := by simpa using g
          rw [q, if_pos (show nI (bN false) = 0 from rfl), if_pos (by simp [g])]
        · have q : (tk σ c != 4294967295) = true := by simpa using g
          rw [q, if_neg (show ¬ nI (bN true) = 0 from by decide), if_neg (by simp [g])]
    rw [e42]
    cases gq : (!t || tk σ c == 4294967295)
    · rw [if_neg (show ¬ (false = true) from by decide), if_pos (show nI (bN false) = 0 from rfl)]
      exact cm_no (O := O) (e := 2) (r := 0) hST (by decide) rfl rfl
    · rw [if_pos (rfl : true = true), if_neg (show ¬ nI (bN true) = 0 from by decide)]
      obtain ⟨a', b', G', dy', e1, e2, hH', hS'⟩ := rmb (us := us) (ch := ch) (T := T) (B := B) (rf := 0) (zs := zs) (sp := sp) (ou := ou) (mt := mt) (jT := jT) (jO := jO) hO hH hS
      have b1 : bN t ≤ 1 := by have := bN_lt t; omega
      have t2 := rep_shut hR hW hc b1
      have w2 := shut_WF hW hc b1
      have e3 := setShut_c hR hW hc t
      rw [gq, if_pos rfl] at e3
      refine cm_ok (O := O) (r := nI (shS (upN σ (4 + c) (bN t)) 36 0)) (κ' := upN κ (4 + c) (bN t)) (σ' := upN σ (4 + c) (bN t)) ⟨t2, w2, shut_GT hO.2.2.1 hc, ?_⟩ hH' hS' ?_ ?_
      · rw [upN_ne (by omega)]
        have := hO.2.2.2
        omega
      · unfold fX3_shut_42
        rw [e1, Option.bind_some]
        dsimp only
        rw [e3, Option.bind_some]
        dsimp only
        rw [shutRooms_c t2 w2]
        rfl
      · show (some (0, 0)).bind _ = _
        rw [Option.bind_some]
        show (if (0 : Int32) = 0 then (fX4_remember 0 zs (nI a) sp ou mt (E σ) jT jO dy kp ik).bind _ else _) = _
        rw [if_pos rfl, e2, Option.bind_some]
        dsimp only
        rw [shutOn_E hc]
        rfl
  · rw [isRoom_cf hc, isRoom_f hc]
    exact cm_no (O := O) (e := 1) (r := 0) hST (by decide) rfl rfl
theorem c_pull (h : ST m la cn C G sv ac N dy kp ik) (y : Int32) : CM (m + 60) (fL_pull la cn us ch C G sv T B O y) (fX4_pull rf zs ac sp ou mt N jT jO dy kp ik y) sv kp ik := by
  have hST := h
  obtain ⟨a, b, κ, σ, rfl, rfl, rfl, rfl, rfl, hO, hH, hS⟩ := h
  have hR := hO.1
  have hW := hO.2.1
  have h0 := hW.1
  have n0 : ¬ nI 1 = 0 := by decide
  unfold fL_pull fX3_pull fX4_pull
  rcases one_of σ y with ⟨c, hc, rfl⟩ | hc
  · rw [has_t hR hW hc, isOne_t h0 hc, Option.bind_some, Option.bind_some, if_neg n0, if_neg n0, canPull_E hW hc, Option.bind_some, isUnderWay_c hR hW (by omega), Option.bind_some]
    have eu : uw σ c = decide (σ (40 + 18 * c) < 2) := by unfold uw; rw [decide_eq_true hc]; rfl
    rw [eu]
    by_cases g : σ (40 + 18 * c) < 2
    · rw [decide_eq_true g, if_neg (show ¬ nI (bN true) = 0 from by decide), if_neg (show ¬ nI (bN true) = 0 from by decide)]
      obtain ⟨a', b', G', dy', e1, e2, hH', hS'⟩ := rmb (us := us) (ch := ch) (T := T) (B := B) (rf := 0) (zs := zs) (sp := sp) (ou := ou) (mt := mt) (jT := jT) (jO := jO) hO hH hS
      obtain ⟨κ', t1, t2⟩ := pullOut_t hR hW hc (by omega)
      refine cm_ok (O := O) (r := nI (σ (40 + 18 * c + 1))) (κ' := κ') (σ' := pulN σ c) ⟨t2, pull_WF hW hc, pull_GT hO.2.2.1, ?_⟩ hH' hS' ?_ ?_
      · rw [pul_o (by omega) (by omega) (by omega)]
        have := hO.2.2.2
        omega
      · rw [e1, Option.bind_some]
        dsimp only
        rw [show (1 : Int32) = nI 1 from rfl, number_c (by omega) (by omega), Option.bind_some, t1, Option.bind_some, hR.nm hc (by omega)]
        rfl
      · show (some (0, 0)).bind _ = _
        rw [Option.bind_some]
        show (if (0 : Int32) = 0 then (fX4_remember 0 zs (nI a) sp ou mt (E σ) jT jO dy kp ik).bind _ else _) = _
        rw [if_pos rfl, e2, Option.bind_some]
        dsimp only
        rw [pullOn_E (by omega)]
        rfl
    · rw [decide_eq_false g, if_pos (show nI (bN false) = 0 from rfl), if_pos (show nI (bN false) = 0 from rfl)]
      exact cm_no (O := O) (e := 2) (r := 0) hST (by decide) rfl rfl
  · rw [has_f hR hW hc, isOne_f h0 hc]
    exact cm_no (O := O) (e := 1) (r := 0) hST (by decide) rfl rfl
end CMD
