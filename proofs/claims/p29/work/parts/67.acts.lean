/-! THE ACTIONS: what they answer, and the state behind them -/
section ATS
variable {σ τ κ : Nat → Nat} {h : List (Nat → Nat)} {sl : Nat → Option (Nat → Nat)} {m m2 i k n v p s c f : Nat} {la cn us : Int32} {ch C G sv T B : Nat → Int32} {y z w : Int32}
/-- an action's outcome: the answer r, the state behind -/
def AO (m : Nat) (σ : Nat → Nat) (h : List (Nat → Nat)) (sl : Nat → Option (Nat → Nat)) (sv B : Nat → Int32) (r : Int32) (o : Option (Int32 × Int32 × Int32 × (Nat → Int32) × (Nat → Int32) × (Nat → Int32) × (Nat → Int32))) : Prop := ∃ la' cn' C' G', o = some (r, la', cn', C', G', sv, B) ∧ HS m σ h sl la' cn' C' G' sv
theorem gx {a b : Prop} (h : a) (h2 : b) : a ∧ b := ⟨h, h2⟩
theorem ticks_OKX (hO : OKX m κ σ) (hm : m + n < 4294967295) {κ' : Nat → Nat} (hR : Rep 0 κ' (ticksN σ n)) : OKX (m + n) κ' (ticksN σ n) := by
  obtain ⟨⟨h1, h2, h3, h4⟩, h5, h6⟩ := hO
  exact ⟨⟨hR, ticks_WF _ _ h2, ticks_GT _ _ h2 h3, by rw [ticks_1]; omega⟩, ticks_XF _ _ h2 h5 (by omega), ticks_WT _ _ h6⟩
theorem k_ticks (H : HS m σ h sl la cn C G sv) (hm : m ≤ 1000000000) (n : Nat) (hn1 : 1 ≤ n) (hn : n ≤ 60) (hy : y = nI n) : AO (m + 60) (ticksN σ n) (σ :: h.take 13) sl sv B (nI (cntN (ticksN σ n) 2 - cntN σ 2)) (fM_call la cn us ch C G sv T B 10 y z w) := by
  obtain ⟨κ, rfl, hO⟩ := H.here
  obtain ⟨la', cn', G', e1, H1⟩ := H.push (us := us) (ch := ch) (T := T) (B := B)
  have hR := hO.1.1
  have hW := hO.1.2.1
  obtain ⟨κ', t1, t2⟩ := runTicks_c hR hW hn1 hn
  refine ⟨la', cn', E κ', G', ?_, (H1.mono (show m ≤ m + 60 by omega)).now ((ticks_OKX hO (by omega) t2).mono (by omega))⟩
  rw [dc_10, hy]
  unfold fM_tryTicks fX3_ticks
  rw [isTicks_c hn1 hn, Option.bind_some, if_neg (show ¬ nI 1 = 0 from by decide), e1, Option.bind_some]
  dsimp only
  rw [show (2 : Int32) = nI 2 from rfl, countWhere_c hR hW (by omega), Option.bind_some, t1, Option.bind_some]
  dsimp only
  rw [countWhere_c t2 (ticks_WF _ _ hW) (by omega), Option.bind_some, m_sub (gone_mono n σ)]
  rfl
theorem k_ticks_f (hy : ∀ n, 1 ≤ n → n ≤ 60 → y ≠ nI n) : fM_call la cn us ch C G sv T B 10 y z w = some (-9999002, la, cn, C, G, sv, B) := by
  rw [dc_10]
  unfold fM_tryTicks fX3_ticks
  rw [isTicks_cf hy]
  rfl
theorem hat_OKX (hO : OKX m κ σ) (h0 : σ 0 < 10) (hc : c < 36) (hf : f < 36) (hn1 : 1 ≤ n) (hn : n ≤ 9) {κ' : Nat → Nat} (hR : Rep 0 κ' (hatN σ c f n)) : OKX m κ' (hatN σ c f n) := by
  obtain ⟨⟨h1, h2, h3, h4⟩, h5, h6⟩ := hO
  exact ⟨⟨hR, hat_WF h2 h0 hc hf hn1 hn, hat_GT h3 c f n, by rw [hat_lo c f n (by omega) (by omega)]; exact h4⟩, hat_XF h2 h5 hn1, hat_WT h6 c f n⟩
theorem k_hatch (H : HS m σ h sl la cn C G sv) (c f n : Nat) (hc : c < 36) (hf : f < 36) (hn1 : 1 ≤ n) (hn : n ≤ 9) (h0 : σ 0 < 10) (hy : y = nI c) (hz : z = nI f) (hw : w = nI n) : AO m (hatN σ c f n) (σ :: h.take 13) sl sv B (nI (σ 0)) (fM_call la cn us ch C G sv T B 9 y z w) := by
  obtain ⟨κ, rfl, hO⟩ := H.here
  obtain ⟨la', cn', G', e1, H1⟩ := H.push (us := us) (ch := ch) (T := T) (B := B)
  have hR := hO.1.1
  have hW := hO.1.2.1
  obtain ⟨t1, t2⟩ := add_t hR hW h0 hc hf hn1 hn
  refine ⟨la', cn', E (addC κ (σ 0) c f n), G', ?_, H1.now (hat_OKX hO h0 hc hf hn1 hn t2)⟩
  have en : fX0_count (E (addC κ (σ 0) c f n)) = some (nI (σ 0 + 1)) := by
    show some (nI (addC κ (σ 0) c f n 0)) = _
    rw [t2.1, hat_0]
  rw [dc_9, hy, hz, hw]
  unfold fM_tryHatch fX3_hatch
  rw [isRoom_c hc, Option.bind_some, if_neg (show ¬ nI 1 = 0 from by decide), isRoom_c hf, Option.bind_some, if_neg (show ¬ nI 1 = 0 from by decide), isLength_c hn1 hn, Option.bind_some, if_neg (show ¬ nI 1 = 0 from by decide), isFull_c hR hW, Option.bind_some, decide_eq_false (show ¬ 10 ≤ σ 0 by omega), if_pos (show nI (bN false) = 0 from rfl), e1, Option.bind_some]
  dsimp only
  rw [t1, Option.bind_some]
  dsimp only
  rw [en, Option.bind_some, show (1 : Int32) = nI 1 from rfl, m_sub (by omega), Nat.add_sub_cancel]
  rfl
theorem k_hatch_full (H : HS m σ h sl la cn C G sv) (c f n : Nat) (hc : c < 36) (hf : f < 36) (hn1 : 1 ≤ n) (hn : n ≤ 9) (h0 : 10 ≤ σ 0) (hy : y = nI c) (hz : z = nI f) (hw : w = nI n) : fM_call la cn us ch C G sv T B 9 y z w = some (-9999003, la, cn, C, G, sv, B) := by
  obtain ⟨κ, rfl, hO⟩ := H.here
  rw [dc_9, hy, hz, hw]
  unfold fM_tryHatch fX3_hatch
  rw [isRoom_c hc, Option.bind_some, if_neg (show ¬ nI 1 = 0 from by decide), isRoom_c hf, Option.bind_some, if_neg (show ¬ nI 1 = 0 from by decide), isLength_c hn1 hn, Option.bind_some, if_neg (show ¬ nI 1 = 0 from by decide), isFull_c hO.1.1 hO.1.2.1, Option.bind_some, decide_eq_true h0, if_neg (show ¬ nI (bN true) = 0 from by decide)]
  rfl
theorem k_hatch_f1 (hy : ∀ n, n < 36 → y ≠ nI n) : fM_call la cn us ch C G sv T B 9 y z w = some (-9999001, la, cn, C, G, sv, B) := by
  rw [dc_9]
  unfold fM_tryHatch fX3_hatch
  rw [isRoom_cf hy]
  rfl
theorem k_hatch_f2 (hk : k < 36) (hy : y = nI k) (hz : ∀ n, n < 36 → z ≠ nI n) : fM_call la cn us ch C G sv T B 9 y z w = some (-9999001, la, cn, C, G, sv, B) := by
  rw [dc_9, hy]
  unfold fM_tryHatch fX3_hatch
  rw [isRoom_c hk, Option.bind_some, if_neg (show ¬ nI 1 = 0 from by decide), isRoom_cf hz]
  rfl
theorem k_hatch_f3 (hk : k < 36) (hy : y = nI k) (hv : v < 36) (hz : z = nI v) (hw : ∀ n, 1 ≤ n → n ≤ 9 → w ≠ nI n) : fM_call la cn us ch C G sv T B 9 y z w = some (-9999002, la, cn, C, G, sv, B) := by
  rw [dc_9, hy, hz]
  unfold fM_tryHatch fX3_hatch
  rw [isRoom_c hk, Option.bind_some, if_neg (show ¬ nI 1 = 0 from by decide), isRoom_c hv, Option.bind_some, if_neg (show ¬ nI 1 = 0 from by decide), isLength_cf hw]
  rfl
theorem k_if_f1 (hy : ∀ n, n < 36 → y ≠ nI n) : fM_call la cn us ch C G sv T B 15 y z w = some (-9999001, la, cn, C, G, sv, B) := by
  rw [dc_15]
  unfold fM_tryIf fX3_ifHatched
  rw [isRoom_cf hy]
  rfl
theorem k_if_f3 (hk : k < 36) (hy : y = nI k) (hv : v < 36) (hz : z = nI v) (hw : ∀ n, 1 ≤ n → n ≤ 9 → w ≠ nI n) : fM_call la cn us ch C G sv T B 15 y z w = some (-9999002, la, cn, C, G, sv, B) := by
  rw [dc_15, hy, hz]
  unfold fM_tryIf fX3_ifHatched
  rw [isRoom_c hk, Option.bind_some, if_neg (show ¬ nI 1 = 0 from by decide), isRoom_c hv, Option.bind_some, if_neg (show ¬ nI 1 = 0 from by decide), isLength_cf hw]
  rfl
theorem rule_OKX (hO : OKX m κ σ) (hv : v ≤ 2) {κ' : Nat → Nat} (hR : Rep 0 κ' (upN σ 2 v)) : OKX m κ' (upN σ 2 v) := by
  obtain ⟨⟨h1, h2, h3, h4⟩, h5, h6⟩ := hO
  exact ⟨⟨hR, rule_WF h2 hv, rule_GT h3, by rw [upN_ne (by omega)]; exact h4⟩, rule_XF h2 h5, rule_WT h6⟩
theorem k_rule (H : HS m σ h sl la cn C G sv) (v : Nat) (hv : v ≤ 2) (hy : y = nI v) : AO m (upN σ 2 v) (σ :: h.take 13) sl sv B (nI (σ 2)) (fM_call la cn us ch C G sv T B 11 y z w) := by
  obtain ⟨κ, rfl, hO⟩ := H.here
  obtain ⟨la', cn', G', e1, H1⟩ := H.push (us := us) (ch := ch) (T := T) (B := B)
  have hR := hO.1.1
  have hW := hO.1.2.1
  refine ⟨la', cn', E (upN κ 1 v), G', ?_, H1.now (rule_OKX hO hv (rep_rule hR hW hv))⟩
  have ep : fX0_presentRule (E κ) = some (nI (σ 2)) := by
    show some (nI (κ 1)) = _
    rw [hR.2.1]
  rw [dc_11, hy]
  unfold fM_tryRule fX3_rule
  rw [isRule_c hv, Option.bind_some, if_neg (show ¬ nI 1 = 0 from by decide), e1, Option.bind_some]
  dsimp only
  rw [ep, Option.bind_some, setRule_t hv]
  rfl
theorem k_rule_f (hy : ∀ n, n ≤ 2 → y ≠ nI n) : fM_call la cn us ch C G sv T B 11 y z w = some (-9999002, la, cn, C, G, sv, B) := by
  rw [dc_11]
  unfold fM_tryRule fX3_rule
  rw [isRule_cf hy]
  rfl
theorem pull_OKX (hO : OKX m κ σ) (hi : i < σ 0) (h1 : σ (40 + 18 * i) ≤ 1) {κ' : Nat → Nat} (hR : Rep 0 κ' (pulN σ i)) : OKX m κ' (pulN σ i) := by
  obtain ⟨⟨a1, a2, a3, a4⟩, a5, a6⟩ := hO
  exact ⟨⟨hR, pull_WF a2 hi, pull_GT a3, by rw [pul_o (by omega) (by omega) (by omega)]; exact a4⟩, pull_XF a2 a5 hi h1, pull_WT a6⟩
theorem k_pull (H : HS m σ h sl la cn C G sv) (i : Nat) (hi : i < σ 0) (h1 : σ (40 + 18 * i) ≤ 1) (hy : y = nI i) : AO m (pulN σ i) (σ :: h.take 13) sl sv B (nI (σ (40 + 18 * i + 1))) (fM_call la cn us ch C G sv T B 12 y z w) := by
  obtain ⟨κ, rfl, hO⟩ := H.here
  obtain ⟨la', cn', G', e1, H1⟩ := H.push (us := us) (ch := ch) (T := T) (B := B)
  have hR := hO.1.1
  have hW := hO.1.2.1
  have h0 := hW.1
  obtain ⟨κ', t1, t2⟩ := pullOut_t hR hW hi h1
  have eu : uw σ i = true := by unfold uw; rw [decide_eq_true hi, decide_eq_true (show σ (40 + 18 * i) < 2 by omega)]; rfl
  refine ⟨la', cn', E κ', G', ?_, H1.now (pull_OKX hO hi h1 t2)⟩
  rw [dc_12, hy]
  unfold fM_tryPull fX3_pull
  rw [has_t hR hW hi, Option.bind_some, if_neg (show ¬ nI 1 = 0 from by decide), isUnderWay_c hR hW (by omega), Option.bind_some, eu, if_neg (show ¬ nI (bN true) = 0 from by decide), e1, Option.bind_some]
  dsimp only
  rw [show (1 : Int32) = nI 1 from rfl, number_c (by omega) (by omega), Option.bind_some, hR.nm hi (by omega), t1]
  rfl
theorem k_pull_o (H : HS m σ h sl la cn C G sv) (i : Nat) (hi : i < σ 0) (h1 : 2 ≤ σ (40 + 18 * i)) (hy : y = nI i) : fM_call la cn us ch C G sv T B 12 y z w = some (-9999003, la, cn, C, G, sv, B) := by
  obtain ⟨κ, rfl, hO⟩ := H.here
  have hR := hO.1.1
  have hW := hO.1.2.1
  have h0 := hW.1
  have eu : uw σ i = false := by unfold uw; rw [decide_eq_false (show ¬ σ (40 + 18 * i) < 2 by omega), Bool.and_false]
  rw [dc_12, hy]
  unfold fM_tryPull fX3_pull
  rw [has_t hR hW hi, Option.bind_some, if_neg (show ¬ nI 1 = 0 from by decide), isUnderWay_c hR hW (by omega), Option.bind_some, eu, if_pos (show nI (bN false) = 0 from rfl)]
  rfl
theorem k_pull_f (H : HS m σ h sl la cn C G sv) (hy : ∀ n, n < σ 0 → y ≠ nI n) : fM_call la cn us ch C G sv T B 12 y z w = some (-9999001, la, cn, C, G, sv, B) := by
  obtain ⟨κ, rfl, hO⟩ := H.here
  rw [dc_12]
  unfold fM_tryPull fX3_pull
  rw [has_f hO.1.1 hO.1.2.1 hy]
  rfl
theorem shut_OKX (hO : OKX m κ σ) (hk : k < 36) (b : Bool) (hb : b = false ∨ tk σ k = 4294967295) {κ' : Nat → Nat} (hR : Rep 0 κ' (upN σ (4 + k) (bN b))) : OKX m κ' (upN σ (4 + k) (bN b)) := by
  obtain ⟨⟨a1, a2, a3, a4⟩, a5, a6⟩ := hO
  have hb1 : bN b ≤ 1 := by have := bN_lt b; omega
  exact ⟨⟨hR, shut_WF a2 hk hb1, shut_GT a3 hk, by rw [upN_ne (by omega)]; exact a4⟩, shut_XF a2 a5 hk (hb.imp (fun e => by rw [e]; rfl) id), shut_WT a6 hk⟩
/-- an outcome of shuts -/
def SO (m : Nat) (σ : Nat → Nat) (h : List (Nat → Nat)) (sl : Nat → Option (Nat → Nat)) (sv : Nat → Int32) (r : Int32) (o : Option (Int32 × Int32 × Int32 × (Nat → Int32) × (Nat → Int32))) : Prop := ∃ la' cn' C' G', o = some (r, la', cn', C', G') ∧ HS m σ h sl la' cn' C' G' sv
theorem k_shut (H : HS m σ h sl la cn C G sv) (k : Nat) (hk : k < 36) (b : Bool) (hb : b = false ∨ tk σ k = 4294967295) (hy : y = nI k) (hz : z = nI (bN b)) : SO m (upN σ (4 + k) (bN b)) (σ :: h.take 13) sl sv (nI (shS (upN σ (4 + k) (bN b)) 36 0)) (fM_shuts la cn us ch C G sv T B y z) := by
  obtain ⟨κ, rfl, hO⟩ := H.here
  obtain ⟨la', cn', G', e1, H1⟩ := H.push (us := us) (ch := ch) (T := T) (B := B)
  have hR := hO.1.1
  have hW := hO.1.2.1
  have hb1 : bN b ≤ 1 := by have := bN_lt b; omega
  have hR2 := rep_shut hR hW hk hb1
  refine ⟨la', cn', E (upN κ (4 + k) (bN b)), G', ?_, H1.now (shut_OKX hO hk b hb hR2)⟩
  have hs : fX0_setShut (E κ) (nI k) (nI (bN b)) = some (nI 1, E (upN κ (4 + k) (bN b))) := by
    rw [setShut_c hR hW hk b, if_pos]
    rcases hb with rfl | hb
    · rfl
    · rw [hb]; simp
  have tail : fX3_shut_42 us ch sv T B (nI k) (nI (bN b)) la cn (E κ) G = some (.inr (nI (shS (upN σ (4 + k) (bN b)) 36 0), la', cn', E (upN κ (4 + k) (bN b)), G')) := by
    unfold fX3_shut_42
    rw [e1, Option.bind_some]
    dsimp only
    rw [hs, Option.bind_some]
    dsimp only
    rw [shutRooms_c hR2 (shut_WF hW hk hb1)]
    rfl
  rw [hy, hz]
  unfold fM_shuts fX3_shut
  rw [isRoom_c hk, Option.bind_some, if_neg (show ¬ nI 1 = 0 from by decide)]
  rcases hb with rfl | hb
  · rw [if_pos (show nI (bN false) = 0 from rfl), tail]
    rfl
  · rw [isTaken_c hR hW hk, hb, show ((4294967295 : Nat) != 4294967295) = false from by decide, Option.bind_some, if_pos (show nI (bN false) = 0 from rfl), ite_self, tail]
    rfl
theorem k_shut_o (H : HS m σ h sl la cn C G sv) (k : Nat) (hk : k < 36) (hb : tk σ k ≠ 4294967295) (hy : y = nI k) (hz : z = 1) : fM_shuts la cn us ch C G sv T B y z = some (-9999003, la, cn, C, G) := by
  obtain ⟨κ, rfl, hO⟩ := H.here
  have hR := hO.1.1
  have hW := hO.1.2.1
  rw [hy, hz]
  unfold fM_shuts fX3_shut
  rw [isRoom_c hk, Option.bind_some, if_neg (show ¬ nI 1 = 0 from by decide), if_neg (show ¬ (1 : Int32) = 0 from by decide), isTaken_c hR hW hk, show (tk σ k != 4294967295) = true from bne_iff_ne.mpr hb, Option.bind_some, if_neg (show ¬ nI (bN true) = 0 from by decide)]
  rfl
theorem k_shut_f (hy : ∀ n, n < 36 → y ≠ nI n) : fM_shuts la cn us ch C G sv T B y z = some (-9999001, la, cn, C, G) := by
  unfold fM_shuts fX3_shut
  rw [isRoom_cf hy]
  rfl
/-- back to what was remembered -/
theorem k_undo (H : HS m σ (τ :: h) sl la cn C G sv) : AO m τ h sl sv B (nI h.length) (fM_call la cn us ch C G sv T B 13 y z w) := by
  obtain ⟨hl, ⟨b, κ, hb, rfl, rfl, rfl, hO, hh⟩, hS⟩ := H
  rw [List.length_cons] at hl
  obtain ⟨κ2, o1, o2⟩ := hh 0 τ rfl
  rw [show (b + 14 - 0) % 14 = b by omega] at o2
  have eC : va_cpy G (E κ) (256 * b) 0 256 = E (fun x => if x < 256 then κ2 x else κ x) := by
    funext x
    unfold va_cpy E
    dsimp only
    by_cases g : x < 256
    · rw [if_pos (by omega), if_pos g, ← o2 x g, Nat.sub_zero]
    · rw [if_neg (by omega), if_neg g]
  have hO2 : OKX m (fun x => if x < 256 then κ2 x else κ x) τ := ⟨o1.1.congr (fun x hx => if_pos hx) (fun x hx => rfl), o1.2⟩
  refine ⟨nI ((b + 13) % 14), nI h.length, _, G, ?_, by omega, ⟨(b + 13) % 14, _, by omega, rfl, rfl, eC, hO2, fun j ρ e => ?_⟩, hS⟩
  · rw [dc_13]
    unfold fM_tryUndo fX3_undo
    rw [if_neg (show ¬ nI (τ :: h).length = 0 from fun e => by rw [List.length_cons] at e; have := (m_eq (b := 0) (by omega) (by omega)).mp e; omega), readFrom_c (by omega), Option.bind_some]
    have e1 : nI b + 14 - 1 - (nI b + 14 - 1) / 14 * 14 = nI ((b + 13) % 14) := by
      rw [show (1 : Int32) = nI 1 from rfl, show (14 : Int32) = nI 14 from rfl, m_add, m_sub (by omega), m_div (by omega) (by omega) (by omega), m_mul, m_sub (by omega)]
      congr 1
      omega
    have e2 : nI (τ :: h).length - 1 = nI h.length := by
      rw [List.length_cons, show (1 : Int32) = nI 1 from rfl, m_sub (by omega), Nat.add_sub_cancel]
    rw [e1, e2]
    rfl
  · have := hh (j + 1) ρ e
    have hj : j < 14 := by
      obtain ⟨q, -⟩ := List.getElem?_eq_some_iff.mp e
      omega
    rw [show ((b + 13) % 14 + 14 - j) % 14 = (b + 14 - (j + 1)) % 14 by omega]
    exact this
theorem k_undo_f (H : HS m σ [] sl la cn C G sv) : fM_call la cn us ch C G sv T B 13 y z w = some (-9999003, la, cn, C, G, sv, B) := by
  obtain ⟨hl, ⟨b, κ, hb, rfl, rfl, rfl, hO, hh⟩, hS⟩ := H
  rw [dc_13]
  unfold fM_tryUndo fX3_undo
  rw [if_pos (show nI ([] : List (Nat → Nat)).length = 0 from rfl)]
  rfl
/-- kept, and back from there -/
def slU (sl : Nat → Option (Nat → Nat)) (s : Nat) (σ : Nat → Nat) : Nat → Option (Nat → Nat) := fun t => if t = s then some σ else sl t
theorem k_keep (H : HS m σ h sl la cn C G sv) (s : Nat) (hs : s < 2) (hy : y = nI s) : ∃ G' sv', fM_call la cn us ch C G sv T B 16 y z w = some (nI (σ 1), la, cn, C, G', sv', B) ∧ HS m σ h (slU sl s σ) la cn C G' sv' := by
  obtain ⟨hl, ⟨b, κ, hb, rfl, rfl, rfl, hO, hh⟩, hS⟩ := H
  have et : fX0_ticksSoFar (E κ) = some (nI (σ 1)) := by
    show some (nI (κ 2)) = _
    rw [hO.1.1.2.2.1]
    rfl
  refine ⟨va_cpy (E κ) G 0 (256 * (14 + s)) 256, upd sv s 1, ?_, hl, ⟨b, κ, hb, rfl, rfl, rfl, hO, fun j τ e => ?_⟩, fun t ht => ?_⟩
  · rw [dc_16, hy]
    unfold fM_tryKeep fX3_save
    rw [if_neg (nI_pos (by omega)), if_pos (show nI s < 2 from (m_lt (b := 2) (by omega) (by omega)).mpr hs), show (14 : Int32) = nI 14 from rfl, m_add, writeTo_c (by omega), Option.bind_some, m_gd hs (by omega), et, m_cl (by omega)]
    rfl
  · obtain ⟨κ2, a1, a2⟩ := hh j τ e
    have hj : j < 14 := by
      obtain ⟨q, -⟩ := List.getElem?_eq_some_iff.mp e
      omega
    exact ⟨κ2, a1, fun x hx => by rw [cpy_o (by omega)]; exact a2 x hx⟩
  · unfold slU upd
    by_cases g : t = s
    · rw [if_pos g, if_pos g, g]
      exact Or.inr ⟨σ, rfl, by decide, κ, hO, fun x hx => by rw [cpy_in hx, Nat.zero_add]; rfl⟩
    · rw [if_neg g, if_neg g]
      rcases hS t ht with a | ⟨τ, a1, a2, κ2, a3, a4⟩
      · exact Or.inl a
      · exact Or.inr ⟨τ, a1, a2, κ2, a3, fun x hx => by rw [cpy_o (by omega)]; exact a4 x hx⟩
theorem k_keep_f (hy : y < 0 ∨ ∃ v, 2 ≤ v ∧ v < 2147483648 ∧ y = nI v) : fM_call la cn us ch C G sv T B 16 y z w = some (-9999001, la, cn, C, G, sv, B) := by
  rw [dc_16]
  unfold fM_tryKeep fX3_save
  rcases hy with hy | ⟨v, v1, v2, rfl⟩
  · rw [if_pos hy]; rfl
  · rw [if_neg (nI_pos v2), if_neg (show ¬ nI v < 2 from fun e => by have := (m_lt (b := 2) (by omega) (by omega)).mp e; omega)]
    rfl
theorem k_back (H : HS m σ h sl la cn C G sv) (s : Nat) (hs : s < 2) (hq : sl s = some τ) (hy : y = nI s) : AO m τ [] sl sv B (nI (τ 1)) (fM_call la cn us ch C G sv T B 17 y z w) := by
  obtain ⟨hl, ⟨b, κ, hb, rfl, rfl, rfl, hO, hh⟩, hS⟩ := H
  obtain ⟨τ', q1, q2, κ2, o1, o2⟩ : ∃ τ', sl s = some τ' ∧ sv s ≠ 0 ∧ PL m G (14 + s) τ' := by
    rcases hS s hs with ⟨a, _⟩ | a
    · rw [hq] at a; cases a
    · exact a
  have e0 : τ' = τ := Option.some.inj (q1.symm.trans hq)
  subst e0
  have eC : va_cpy G (E κ) (256 * (14 + s)) 0 256 = E (fun x => if x < 256 then κ2 x else κ x) := by
    funext x
    unfold va_cpy E
    dsimp only
    by_cases g : x < 256
    · rw [if_pos (by omega), if_pos g, ← o2 x g, Nat.sub_zero]
    · rw [if_neg (by omega), if_neg g]
  have hO2 : OKX m (fun x => if x < 256 then κ2 x else κ x) τ' := ⟨o1.1.congr (fun x hx => if_pos hx) (fun x hx => rfl), o1.2⟩
  have et : fX0_ticksSoFar (va_cpy G (E κ) (256 * (14 + s)) 0 256) = some (nI (τ' 1)) := by
    rw [eC]
    show some (nI (if 2 < 256 then κ2 2 else κ 2)) = _
    rw [if_pos (by omega), o1.1.1.2.2.1]
    rfl
  refine ⟨nI b, 0, _, G, ?_, Nat.zero_le _, ⟨b, _, hb, rfl, rfl, eC, hO2, fun j ρ e => by cases e⟩, hS⟩
  rw [dc_17, hy]
  unfold fM_tryBack fX3_restore fX3_forgetRemembered
  rw [if_neg (nI_pos (by omega)), if_pos (show nI s < 2 from (m_lt (b := 2) (by omega) (by omega)).mpr hs), m_gd hs (by omega), m_cl (by omega), if_neg q2, show (14 : Int32) = nI 14 from rfl, m_add, readFrom_c (by omega), Option.bind_some, Option.bind_some, et]
  rfl
theorem k_back_o (H : HS m σ h sl la cn C G sv) (s : Nat) (hs : s < 2) (hq : sl s = none) (hy : y = nI s) : fM_call la cn us ch C G sv T B 17 y z w = some (-9999003, la, cn, C, G, sv, B) := by
  have e0 : sv s = 0 := by
    rcases H.2.2 s hs with ⟨_, a⟩ | ⟨τ, a, _⟩
    · exact a
    · rw [hq] at a; cases a
  rw [dc_17, hy]
  unfold fM_tryBack fX3_restore
  rw [if_neg (nI_pos (by omega)), if_pos (show nI s < 2 from (m_lt (b := 2) (by omega) (by omega)).mpr hs), m_gd hs (by omega), m_cl (by omega), if_pos e0]
  rfl
theorem k_back_f (hy : y < 0) : fM_call la cn us ch C G sv T B 17 y z w = some (-9999001, la, cn, C, G, sv, B) := by
  rw [dc_17]
  unfold fM_tryBack fX3_restore
  rw [if_pos hy]
  rfl
theorem k_append_f (hy : y < 0 ∨ ∃ v, 256 ≤ v ∧ v < 2147483648 ∧ y = nI v) : fM_call la cn us ch C G sv T B 0 y z w = some (-9999002, la, cn, C, G, sv, B) := by
  rw [dc_0]
  unfold fM_tryAppend fX3_append
  rcases hy with hy | ⟨v, v1, v2, rfl⟩
  · rw [if_pos hy]; rfl
  · rw [if_neg (nI_pos v2), if_neg (show ¬ nI v ≤ 255 from fun e => by have := (m_le (b := 255) (by omega) (by omega)).mp e; omega)]
    rfl
theorem k_about_f (hv : 10 ≤ v) (hv2 : v < 2147483648) (hy : y = nI v) : fM_call la cn us ch C G sv T B 2 y z w = some (-9999002, la, cn, C, G, sv, B) := by
  have hn : ∀ c : Nat, c < 10 → ¬ nI v = nI c := fun c hc e => by have := (m_eq (by omega) (by omega)).mp e; omega
  rw [dc_2, hy]
  unfold fM_tryAbout fX3_about
  rw [if_neg (show ¬ nI v = 0 from hn 0 (by omega)), if_neg (show ¬ nI v = 1 from hn 1 (by omega)), if_neg (show ¬ nI v = 2 from hn 2 (by omega)), if_neg (show ¬ nI v = 3 from hn 3 (by omega)), if_neg (show ¬ nI v = 4 from hn 4 (by omega)), if_neg (show ¬ nI v = 5 from hn 5 (by omega)), if_neg (show ¬ nI v = 6 from hn 6 (by omega)), if_neg (show ¬ nI v = 7 from hn 7 (by omega)), if_neg (show ¬ nI v = 8 from hn 8 (by omega)), if_neg (show ¬ nI v = 9 from hn 9 (by omega))]
  rfl
end ATS
