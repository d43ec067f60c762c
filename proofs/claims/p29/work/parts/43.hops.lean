section HOP
variable {σ τ κ : Nat → Nat} {d i k w v x : Nat}
theorem has_t (h : Rep d κ σ) (hW : WF σ) (hi : i < σ 0) : fX0_has (E κ) (nI i) = some (nI 1) := by
  have h0 := hW.1
  have e := h.1
  simp (disch := omega) only [fX0_has, Nat.add_zero, upN_ne, upN_same, m_lit, m_neg1, m_add, m_mul, m_sub, m_div, m_le, m_lt, m_eq, m_cl, m_gd, m_E, m_upd, m_isz0, m_isz1, Option.bind_some]
  rw [if_neg (by omega), if_neg (by omega)]
theorem has_f {y : Int32} (h : Rep d κ σ) (hW : WF σ) (hi : ∀ n, n < σ 0 → y ≠ nI n) : fX0_has (E κ) y = some (nI 0) := by
  have h0 := hW.1
  have e := h.1
  rcases nI_cases y with ⟨hy, -⟩ | ⟨n, hn, rfl⟩
  · unfold fX0_has
    rw [if_pos hy]; rfl
  · have : σ 0 ≤ n := by
      by_cases g : n < σ 0
      · exact absurd rfl (hi n g)
      · omega
    simp (disch := omega) only [fX0_has, Nat.add_zero, upN_ne, upN_same, m_lit, m_neg1, m_add, m_mul, m_sub, m_div, m_le, m_lt, m_eq, m_cl, m_gd, m_E, m_upd, m_isz0, m_isz1, Option.bind_some]
    rw [if_neg (by omega), if_pos (by omega)]
theorem isFull_c (h : Rep d κ σ) (hW : WF σ) : fX0_isFull (E κ) = some (nI (bN (decide (10 ≤ σ 0)))) := by
  have h0 := hW.1
  have e := h.1
  simp (disch := omega) only [fX0_isFull, Nat.add_zero, upN_ne, upN_same, m_lit, m_neg1, m_add, m_mul, m_sub, m_div, m_le, m_lt, m_eq, m_cl, m_gd, m_E, m_upd, m_isz0, m_isz1, Option.bind_some]
  by_cases g : κ 0 < 10
  · rw [if_pos g, decide_eq_false (by omega)]; rfl
  · rw [if_neg g, decide_eq_true (by omega)]; rfl
def addC (κ : Nat → Nat) (i c f n : Nat) : Nat → Nat := upN (upN (upN (upN (upN (upN (upN (upN (upN (upN κ 0 (i + 1)) (76 + i * 18) 0) (76 + i * 18 + 1) 0) (76 + i * 18 + 2) n) (76 + i * 18 + 3) 0) (76 + i * 18 + 4) 0) (76 + i * 18 + 5) 4294967295) (76 + i * 18 + 6) c) (76 + i * 18 + 7) f) (76 + i * 18 + 8) n
theorem addC_o {c f n : Nat} (h0 : x ≠ 0) (h : x < 76 + i * 18 ∨ 76 + i * 18 + 9 ≤ x) : addC κ i c f n x = κ x := by
  unfold addC
  rw [upN_ne (by omega), upN_ne (by omega), upN_ne (by omega), upN_ne (by omega), upN_ne (by omega), upN_ne (by omega), upN_ne (by omega), upN_ne (by omega), upN_ne (by omega), upN_ne h0]
theorem addC_w {c f n : Nat} (hw : w < 9) : addC κ i c f n (76 + i * 18 + w) = if w = 8 then n else if w = 7 then f else if w = 6 then c else if w = 5 then 4294967295 else if w = 2 then n else 0 := by
  revert w
  have key : ∀ w, w < 9 → addC κ i c f n (76 + i * 18 + w) = if w = 8 then n else if w = 7 then f else if w = 6 then c else if w = 5 then 4294967295 else if w = 2 then n else 0 := by
    unfold addC
    refine nine _ ?_ ?_ ?_ ?_ ?_ ?_ ?_ ?_ ?_
    · show upN _ _ _ (76 + i * 18) = _
      simp (disch := omega) only [Nat.add_zero, upN_ne, upN_same, m_lit, m_neg1, m_add, m_mul, m_sub, m_div, m_le, m_lt, m_eq, m_cl, m_gd, m_E, m_upd, m_isz0, m_isz1, Option.bind_some]
      rfl
    all_goals simp (disch := omega) only [Nat.add_zero, upN_ne, upN_same, m_lit, m_neg1, m_add, m_mul, m_sub, m_div, m_le, m_lt, m_eq, m_cl, m_gd, m_E, m_upd, m_isz0, m_isz1, Option.bind_some]
    all_goals rfl
  intro w hw
  exact key w hw
theorem addC_0 {c f n : Nat} : addC κ i c f n 0 = i + 1 := by
  unfold addC
  simp (disch := omega) only [Nat.add_zero, upN_ne, upN_same, m_lit, m_neg1, m_add, m_mul, m_sub, m_div, m_le, m_lt, m_eq, m_cl, m_gd, m_E, m_upd, m_isz0, m_isz1, Option.bind_some]
theorem add_t (h : Rep d κ σ) (hW : WF σ) (h0 : σ 0 < 10) {c f n : Nat} (hc : c < 36) (hf : f < 36) (hn1 : 1 ≤ n) (hn : n ≤ 9) : fX0_addCaterpillar (E κ) (nI c) (nI f) (nI n) = some (nI 1, E (addC κ (σ 0) c f n)) ∧ Rep d (addC κ (σ 0) c f n) (hatN σ c f n) := by
  obtain ⟨a0, a1, a2, a3, a4, a5, a6, a7, a8⟩ := h
  have hR : Rep d κ σ := ⟨a0, a1, a2, a3, a4, a5, a6, a7, a8⟩
  refine ⟨?_, ?_⟩
  · have t1 : ¬ (nI 1 = nI 0) := by decide
    unfold fX0_addCaterpillar
    rw [isFull_c hR hW, Option.bind_some, decide_eq_false (show ¬ 10 ≤ σ 0 by omega), if_pos (show nI (bN false) = 0 from rfl), isRoom_c hc, Option.bind_some, if_neg (show ¬ nI 1 = 0 from by decide), isRoom_c hf, Option.bind_some, if_neg (show ¬ nI 1 = 0 from by decide), isLength_c hn1 hn, Option.bind_some, if_neg (show ¬ nI 1 = 0 from by decide)]
    simp (disch := omega) only [setNumber_c, a0, Nat.add_zero, upN_ne, upN_same, m_lit, m_neg1, m_add, m_mul, m_sub, m_div, m_le, m_lt, m_eq, m_cl, m_gd, m_E, m_upd, m_isz0, m_isz1, Option.bind_some]
    rfl
  · have g0 := hat_0 (σ := σ) c f n
    refine ⟨?_, ?_, ?_, ?_, fun y hy => ?_, fun y hy => ?_, fun j w hj hw => ?_, fun j p hj hp => ?_, fun j hj hj2 => ?_⟩
    · rw [addC_0, g0]
    · rw [addC_o (by omega) (by omega), a1, hat_lo _ _ _ (by omega) (by omega)]
    · rw [addC_o (by omega) (by omega), a2, hat_lo _ _ _ (by omega) (by omega)]
    · rw [addC_o (by omega) (by omega), a3, hat_lo _ _ _ (by omega) (by omega)]
    · rw [addC_o (by omega) (by omega), a4 y hy, hat_lo _ _ _ (by omega) (by omega)]
    · rw [addC_o (by omega) (by omega), a5 y hy, tk_hat hW h0 hc hf hn1 hn]
    · rw [g0] at hj
      by_cases g : j = σ 0
      · subst g
        rw [addC_w hw, hat_w c f n (by omega)]
      · rw [addC_o (by omega) (by omega), a6 j w (by omega) hw, hat_j c f n g (by omega)]
    · rw [g0] at hj
      by_cases g : j = σ 0
      · subst g
        rw [hat_w c f n (by omega)] at hp
        exact absurd hp (by simp)
      · rw [hat_j c f n g (by omega)] at hp
        have l := CW_lies (hW.2.2.2.1 j (by omega))
        rw [addC_o (by omega) (by omega), a7 j p (by omega) hp, hat_j c f n g (by omega)]
    · rw [g0] at hj
      rw [addC_o (by omega) (by omega), a8 j (by omega) hj2]
theorem add_f (h : Rep d κ σ) (hW : WF σ) {y1 y2 y3 : Int32} (hb : ∀ c f n : Nat, y1 = nI c → y2 = nI f → y3 = nI n → c < 36 → f < 36 → 1 ≤ n → n ≤ 9 → 10 ≤ σ 0) : fX0_addCaterpillar (E κ) y1 y2 y3 = some (nI 0, E κ) := by
  unfold fX0_addCaterpillar
  rw [isFull_c h hW, Option.bind_some]
  by_cases g : 10 ≤ σ 0
  · rw [decide_eq_true g, if_neg (show ¬ nI (bN true) = 0 from by decide)]; rfl
  · rw [decide_eq_false g, if_pos (show nI (bN false) = 0 from rfl)]
    by_cases g1 : ∃ n, n < 36 ∧ y1 = nI n
    · obtain ⟨c, hc, rfl⟩ := g1
      rw [isRoom_c hc, Option.bind_some, if_neg (show ¬ nI 1 = 0 from by decide)]
      by_cases g2 : ∃ n, n < 36 ∧ y2 = nI n
      · obtain ⟨f, hf, rfl⟩ := g2
        rw [isRoom_c hf, Option.bind_some, if_neg (show ¬ nI 1 = 0 from by decide)]
        by_cases g3 : ∃ n, (1 ≤ n ∧ n ≤ 9) ∧ y3 = nI n
        · obtain ⟨n, ⟨hn1, hn⟩, rfl⟩ := g3
          exact absurd (hb c f n rfl rfl rfl hc hf hn1 hn) g
        · rw [isLength_cf (fun n a b e => g3 ⟨n, ⟨a, b⟩, e⟩), Option.bind_some, if_pos (show nI 0 = 0 from rfl)]; rfl
      · rw [isRoom_cf (fun n a e => g2 ⟨n, a, e⟩), Option.bind_some, if_pos (show nI 0 = 0 from rfl)]; rfl
    · rw [isRoom_cf (fun n a e => g1 ⟨n, a, e⟩), Option.bind_some, if_pos (show nI 0 = 0 from rfl)]; rfl
theorem rep_rule (h : Rep d κ σ) (hW : WF σ) (hv : v ≤ 2) : Rep d (upN κ 1 v) (upN σ 2 v) := by
  obtain ⟨a0, a1, a2, a3, a4, a5, a6, a7, a8⟩ := h
  have ht : ∀ y, tk (upN σ 2 v) y = tk σ y := fun y => tk_same hW (rule_WF hW hv) (upN_ne (by omega)) (fun j w hj hw => upN_ne (by omega))
  refine ⟨by rw [upN_ne (by omega), upN_ne (by omega)]; exact a0, by rw [upN_same, upN_same], by rw [upN_ne (by omega), upN_ne (by omega)]; exact a2, by rw [upN_ne (by omega), upN_ne (by omega)]; exact a3, fun x hx => by rw [upN_ne (by omega), upN_ne (by omega)]; exact a4 x hx, fun x hx => by rw [upN_ne (by omega), ht]; exact a5 x hx, fun j w hj hw => ?_, fun j p hj hp => ?_, fun j hj hj2 => ?_⟩
  · rw [upN_ne (by omega)] at hj; rw [upN_ne (by omega), upN_ne (by omega)]; exact a6 j w hj hw
  · rw [upN_ne (by omega)] at hj hp; rw [upN_ne (by omega), upN_ne (by omega)]; exact a7 j p hj hp
  · rw [upN_ne (by omega)] at hj; rw [upN_ne (by omega)]; exact a8 j hj hj2
theorem setRule_t (hv : v ≤ 2) : fX0_setRule (E κ) (nI v) = some (nI 1, E (upN κ 1 v)) := by
  unfold fX0_setRule
  rw [isRule_c hv, Option.bind_some, if_neg (by decide), m_upd]
  rfl
theorem setRule_f {y : Int32} {C : Nat → Int32} (h : ∀ n, n ≤ 2 → y ≠ nI n) : fX0_setRule C y = some (nI 0, C) := by
  unfold fX0_setRule
  rw [isRule_cf h, Option.bind_some, if_pos (by decide)]
  rfl
theorem rep_shut (h : Rep d κ σ) (hW : WF σ) (hk : k < 36) (hv : v ≤ 1) : Rep d (upN κ (4 + k) v) (upN σ (4 + k) v) := by
  obtain ⟨a0, a1, a2, a3, a4, a5, a6, a7, a8⟩ := h
  have ht : ∀ y, tk (upN σ (4 + k) v) y = tk σ y := fun y => tk_same hW (shut_WF hW hk hv) (upN_ne (by omega)) (fun j w hj hw => upN_ne (by omega))
  refine ⟨by rw [upN_ne (by omega), upN_ne (by omega)]; exact a0, by rw [upN_ne (by omega), upN_ne (by omega)]; exact a1, by rw [upN_ne (by omega), upN_ne (by omega)]; exact a2, by rw [upN_ne (by omega), upN_ne (by omega)]; exact a3, fun x hx => ?_, fun x hx => by rw [upN_ne (by omega), ht]; exact a5 x hx, fun j w hj hw => ?_, fun j p hj hp => ?_, fun j hj hj2 => ?_⟩
  · by_cases g : x = k
    · rw [g, upN_same, upN_same]
    · rw [upN_ne (by omega), upN_ne (by omega)]; exact a4 x hx
  · rw [upN_ne (by omega)] at hj; rw [upN_ne (by omega), upN_ne (by omega)]; exact a6 j w hj hw
  · rw [upN_ne (by omega)] at hj hp; rw [upN_ne (by omega), upN_ne (by omega)]; exact a7 j p hj hp
  · rw [upN_ne (by omega)] at hj; rw [upN_ne (by omega)]; exact a8 j hj hj2
theorem setShut21 (hk : k < 36) (b : Bool) : fX0_setShut_21 (nI k) (nI (bN b)) (E κ) = some (nI 1, E (upN κ (4 + k) (bN b))) := by
  simp (disch := omega) only [fX0_setShut_21, fX0_setShut_37, m_bN, Nat.add_zero, upN_ne, upN_same, m_lit, m_neg1, m_add, m_mul, m_sub, m_div, m_le, m_lt, m_eq, m_cl, m_gd, m_E, m_upd, m_isz0, m_isz1, Option.bind_some]
  cases b
  · rw [if_pos rfl]; rfl
  · rw [if_neg (by decide)]; rfl
theorem setShut_c (h : Rep d κ σ) (hW : WF σ) (hk : k < 36) (b : Bool) : fX0_setShut (E κ) (nI k) (nI (bN b)) = if (!b || tk σ k == 4294967295) = true then some (nI 1, E (upN κ (4 + k) (bN b))) else some (nI 0, E κ) := by
  have ht := tk_lt (k := k) hW
  unfold fX0_setShut
  rw [isRoom_c hk, Option.bind_some, if_neg (show ¬ nI 1 = 0 from by decide), setShut21 hk b, isTaken_c h hW hk, Option.bind_some]
  cases b
  · rw [if_pos (show nI (bN false) = 0 from rfl), if_pos (by rfl)]
  · rw [if_neg (show ¬ nI (bN true) = 0 from by decide)]
    by_cases g : tk σ k = 4294967295
    · have q : (tk σ k != 4294967295) = false := by simpa using g
      rw [q, if_pos (show nI (bN false) = 0 from rfl), if_pos (by simp [g])]
    · have q : (tk σ k != 4294967295) = true := by simpa using g
      rw [q, if_neg (show ¬ nI (bN true) = 0 from by decide), if_neg (by simp [g])]; rfl
theorem setShut_f {y z : Int32} {C : Nat → Int32} (h : ∀ n, n < 36 → y ≠ nI n) : fX0_setShut C y z = some (nI 0, C) := by
  unfold fX0_setShut
  rw [isRoom_cf h, Option.bind_some, if_pos (by decide)]
  rfl
def pulC (κ : Nat → Nat) (i j : Nat) : Nat → Nat := fun y => if 40 ≤ y ∧ y < 40 + j ∧ κ y = i then 4294967295 else κ y
theorem taker_k (hk : k < 36) : fX0_takerOf (E κ) (nI k) = some (nI (κ (40 + k))) := by
  simp (disch := omega) only [fX0_takerOf, isRoom_c, Nat.add_zero, upN_ne, upN_same, m_lit, m_neg1, m_add, m_mul, m_sub, m_div, m_le, m_lt, m_eq, m_cl, m_gd, m_E, m_upd, m_isz0, m_isz1, Option.bind_some]
  rw [if_neg (by omega)]
theorem pull12 (hi : i < 10) (hb : ∀ y, y < 36 → κ (40 + y) < 4294967296) : ∀ n j, j ≤ 36 → 36 - j < n → fX0_pullOut_12 (nI i) n (nI j) (E (pulC κ i j)) = some (nI 1, E (upN (upN (upN (pulC κ i 36) (76 + i * 18) 3) (76 + i * 18 + 1) 0) (76 + i * 18 + 2) 0)) := by
  intro n
  induction n with
  | zero => intro j _ h; omega
  | succ n ih =>
    intro j hj hn
    rw [fX0_pullOut_12]
    by_cases h1 : 36 ≤ j
    · have : j = 36 := by omega
      subst this
      simp (disch := omega) only [setNumber_c, Nat.add_zero, upN_ne, upN_same, m_lit, m_neg1, m_add, m_mul, m_sub, m_div, m_le, m_lt, m_eq, m_cl, m_gd, m_E, m_upd, m_isz0, m_isz1, Option.bind_some]
      rw [if_pos h1]
    · have e1 : pulC κ i j (40 + j) = κ (40 + j) := by unfold pulC; rw [if_neg (by omega)]
      have hb1 := hb j (by omega)
      simp (disch := omega) only [taker_k, setTaker_c, fX0_pullOut_33, e1, Nat.add_zero, upN_ne, upN_same, m_lit, m_neg1, m_add, m_mul, m_sub, m_div, m_le, m_lt, m_eq, m_cl, m_gd, m_E, m_upd, m_isz0, m_isz1, Option.bind_some]
      rw [if_neg h1]
      by_cases g : κ (40 + j) = i
      · rw [if_pos g]
        have e : upN (pulC κ i j) (40 + j) 4294967295 = pulC κ i (j + 1) := by
          funext y
          unfold upN pulC
          by_cases q : y = 40 + j
          · rw [if_pos q, if_pos (by rw [q]; omega)]
          · rw [if_neg q]
            by_cases q2 : 40 ≤ y ∧ y < 40 + j ∧ κ y = i
            · rw [if_pos q2, if_pos (by omega)]
            · rw [if_neg q2, if_neg (by omega)]
        rw [e]
        exact ih (j + 1) (by omega) (by omega)
      · rw [if_neg g]
        have e : pulC κ i j = pulC κ i (j + 1) := by
          funext y
          unfold pulC
          by_cases q : y = 40 + j
          · rw [if_neg (by omega), if_neg (by rw [q]; omega)]
          · by_cases q2 : 40 ≤ y ∧ y < 40 + j ∧ κ y = i
            · rw [if_pos q2, if_pos (by omega)]
            · rw [if_neg q2, if_neg (by omega)]
        rw [e]
        exact ih (j + 1) (by omega) (by omega)
theorem pullOut_t (h : Rep d κ σ) (hW : WF σ) (hi : i < σ 0) (h1 : σ (40 + 18 * i) ≤ 1) : ∃ κ', fX0_pullOut (E κ) (nI i) = some (nI 1, E κ') ∧ Rep d κ' (pulN σ i) := by
  have h0 := hW.1
  have hu : uw σ i = true := by unfold uw; rw [decide_eq_true hi, decide_eq_true (by omega)]; rfl
  refine ⟨upN (upN (upN (pulC κ i 36) (76 + i * 18) 3) (76 + i * 18 + 1) 0) (76 + i * 18 + 2) 0, ?_, ?_⟩
  · unfold fX0_pullOut
    rw [isUnderWay_c h hW (by omega), Option.bind_some, hu, if_neg (show ¬ nI (bN true) = 0 from by decide)]
    have e : pulC κ i 0 = κ := by
      funext y
      unfold pulC
      rw [if_neg (by omega)]
    have := pull12 (κ := κ) (i := i) (by omega) (fun y hy => by rw [h.2.2.2.2.2.1 y hy]; exact tk_lt hW) 5000 0 (by omega) (by omega)
    rw [e] at this
    exact this
  · obtain ⟨a0, a1, a2, a3, a4, a5, a6, a7, a8⟩ := h
    have po : ∀ y, (y < 40 ∨ 76 ≤ y) → pulC κ i 36 y = κ y := fun y hy => by unfold pulC; rw [if_neg (by omega)]
    have z0 : pulN σ i 0 = σ 0 := pul_o (by omega) (by omega) (by omega)
    refine ⟨?_, ?_, ?_, ?_, fun y hy => ?_, fun y hy => ?_, fun j w hj hw => ?_, fun j p hj hp => ?_, fun j hj hj2 => ?_⟩
    · rw [upN_ne (by omega), upN_ne (by omega), upN_ne (by omega), po _ (by omega), a0, z0]
    · rw [upN_ne (by omega), upN_ne (by omega), upN_ne (by omega), po _ (by omega), a1, pul_o (by omega) (by omega) (by omega)]
    · rw [upN_ne (by omega), upN_ne (by omega), upN_ne (by omega), po _ (by omega), a2, pul_o (by omega) (by omega) (by omega)]
    · rw [upN_ne (by omega), upN_ne (by omega), upN_ne (by omega), po _ (by omega), a3, pul_o (by omega) (by omega) (by omega)]
    · rw [upN_ne (by omega), upN_ne (by omega), upN_ne (by omega), po _ (by omega), a4 y hy, pul_o (by omega) (by omega) (by omega)]
    · rw [upN_ne (by omega), upN_ne (by omega), upN_ne (by omega), tk_pull hW hi, ← a5 y hy]
      unfold pulC
      by_cases g : κ (40 + y) = i
      · rw [if_pos ⟨by omega, by omega, g⟩, if_pos g]
      · rw [if_neg (fun z => g z.2.2), if_neg g]
    · rw [z0] at hj
      by_cases hji : j = i
      · subst hji
        revert w
        refine nine _ ?_ ?_ ?_ ?_ ?_ ?_ ?_ ?_ ?_
        · show upN _ _ _ (76 + j * 18) = pulN σ j (40 + 18 * j)
          rw [upN_ne (by omega), upN_ne (by omega), upN_same, pul_0]
        · rw [upN_ne (by omega), upN_same, pul_1]
        · rw [upN_same, pul_2]
        all_goals rw [upN_ne (by omega), upN_ne (by omega), upN_ne (by omega), po _ (by omega), pul_o (by omega) (by omega) (by omega), a6 j _ hi (by omega)]
      · rw [upN_ne (by omega), upN_ne (by omega), upN_ne (by omega), po _ (by omega), pul_o (by omega) (by omega) (by omega), a6 j w hj hw]
    · rw [z0] at hj
      by_cases hji : j = i
      · subst hji
        rw [pul_1] at hp
        omega
      · rw [pul_o (by omega) (by omega) (by omega)] at hp
        have l := CW_lies (hW.2.2.2.1 j hj)
        rw [upN_ne (by omega), upN_ne (by omega), upN_ne (by omega), po _ (by omega), pul_o (by omega) (by omega) (by omega), a7 j p hj hp]
    · rw [z0] at hj
      rw [upN_ne (by omega), upN_ne (by omega), upN_ne (by omega), po _ (by omega), a8 j hj hj2]
theorem pullOut_f (h : Rep d κ σ) (hW : WF σ) (hi : i < 10) (hu : uw σ i = false) : fX0_pullOut (E κ) (nI i) = some (nI 0, E κ) := by
  unfold fX0_pullOut
  rw [isUnderWay_c h hW hi, Option.bind_some, hu, if_pos (show nI (bN false) = 0 from rfl)]
  rfl
theorem shut4c (h : Rep d κ σ) (hW : WF σ) : ∀ n k a, k ≤ 36 → 36 - k < n → fX0_shutRooms_4 (E κ) n (nI a) (nI k) = some (nI (a + shS σ (36 - k) k)) := by
  intro n
  induction n with
  | zero => intro k a _ h; omega
  | succ n ih =>
    intro k a hk hn
    rw [fX0_shutRooms_4]
    by_cases h1 : 36 ≤ k
    · simp (disch := omega) only [Nat.add_zero, upN_ne, upN_same, m_lit, m_neg1, m_add, m_mul, m_sub, m_div, m_le, m_lt, m_eq, m_cl, m_gd, m_E, m_upd, m_isz0, m_isz1, Option.bind_some]
      rw [if_pos h1, show 36 - k = 0 by omega]
      rfl
    · have b := hW.2.2.1 k (by omega)
      simp (disch := omega) only [isShut_c h hW, fX0_shutRooms_21, Nat.add_zero, upN_ne, upN_same, m_lit, m_neg1, m_add, m_mul, m_sub, m_div, m_le, m_lt, m_eq, m_cl, m_gd, m_E, m_upd, m_isz0, m_isz1, Option.bind_some]
      rw [if_neg h1, ih (k + 1) _ (by omega) (by omega), ih (k + 1) _ (by omega) (by omega), show 36 - k = (36 - (k + 1)) + 1 by omega, shS]
      by_cases g : σ (4 + k) = 0
      · rw [if_pos g, g, Nat.zero_add]
      · rw [if_neg g, show σ (4 + k) = 1 by omega]
        congr 2
        omega
theorem shutRooms_c (h : Rep d κ σ) (hW : WF σ) : fX0_shutRooms (E κ) = some (nI (shS σ 36 0)) := by
  have := shut4c h hW 5000 0 0 (by omega) (by omega)
  rw [Nat.zero_add] at this
  exact this
-- rows of cells
theorem copyFrom_c (C D : Nat → Int32) : fX0_copyFrom C D = some (va_cpy D C 0 0 256) := by
  unfold fX0_copyFrom
  rw [gz_in (by decide)]
theorem cpy256 (C D : Nat → Int32) (hx : x < 256) : va_cpy D C 0 0 256 x = D x := by
  unfold va_cpy
  rw [if_pos (by omega)]
  congr 1
  omega
theorem Rep_congr {κ' σ' : Nat → Nat} (h : Rep d κ σ) (hW : WF σ) (hk : ∀ x, x < 256 → κ' x = κ x) (hs : ∀ x, x < 220 → σ' x = σ x) : Rep d κ' σ' ∧ WF σ' := by
  have h0 := hW.1
  have z0 := hs 0 (by omega)
  have hW' : WF σ' := by
    obtain ⟨b1, b2, b3, b4, b5⟩ := hW
    refine ⟨by omega, by rw [hs 2 (by omega)]; exact b2, fun y hy => by rw [hs _ (by omega)]; exact b3 y hy, fun j hj => CW_congr (CW_lies (b4 j (by omega))) (fun w hw => hs _ (by omega)) (b4 j (by omega)), ?_⟩
    intro x y p q hx hy hp hq e
    rw [hs _ (by omega)] at hp hq
    have l := CW_lies (b4 x (by omega))
    have l2 := CW_lies (b4 y (by omega))
    rw [hs _ (by omega), hs _ (by omega)] at e
    exact b5 x y p q (by omega) (by omega) hp hq e
  refine ⟨?_, hW'⟩
  obtain ⟨a0, a1, a2, a3, a4, a5, a6, a7, a8⟩ := h
  refine ⟨by rw [hk _ (by omega), z0, a0], by rw [hk _ (by omega), hs _ (by omega), a1], by rw [hk _ (by omega), hs _ (by omega), a2], by rw [hk _ (by omega), hs _ (by omega), a3], fun y hy => by rw [hk _ (by omega), hs _ (by omega), a4 y hy], fun y hy => by rw [hk _ (by omega), a5 y hy, tk_same hW hW' z0 (fun j w hj hw => hs _ (by omega))], fun j w hj hw => ?_, fun j p hj hp => ?_, fun j hj hj2 => ?_⟩
  · rw [hk _ (by omega), hs _ (by omega), a6 j w (by omega) hw]
  · rw [hs _ (by omega)] at hp
    have l := CW_lies (hW.2.2.2.1 j (by omega))
    rw [hk _ (by omega), hs _ (by omega), a7 j p (by omega) hp]
  · rw [hk _ (by omega), a8 j (by omega) hj2]
end HOP
