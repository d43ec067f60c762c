/-! TURNS of a simulation -/
section TRN
variable {σ τ κ : Nat → Nat} {d i j k r w v x m n c f : Nat} {la cn us : Int32} {ch : Nat → Int32} {C G sv T B : Nat → Int32} {rf zs ac sp ou : Int32} {mt N jT jO O dy kp ik : Nat → Int32}
theorem md {a k : Nat} (ha : a < 2147483648) (h0 : 0 < k) (hk : k < 2147483648) : nI a - nI a / nI k * nI k = nI (a % k) := by
  have h1 := Nat.div_add_mod a k
  have h2 : a / k * k ≤ a := Nat.div_mul_le_self a k
  rw [m_div ha h0 hk, m_mul, m_sub h2]
  congr 1
  rw [Nat.mul_comm] at h1
  omega
def RW (o : Option (Nat → Int32)) (q : Option (Nat → Int32)) : Prop := ∃ κ' σ', o = some (E κ') ∧ q = some (E σ') ∧ Rep 0 κ' σ' ∧ WF σ'
theorem rw_hatch (h : Rep 0 κ σ) (hW : WF σ) (hc : c < 36) (hf : f < 36) (hn1 : 1 ≤ n) (hn : n ≤ 9) : RW ((fX0_addCaterpillar (E κ) (nI c) (nI f) (nI n)).bind fun (_, T) => some T) ((fX4_canHatch (E σ) (nI c) (nI f) (nI n)).bind fun r_30 => (if r_30 = 0 then some (E σ) else ((fX4_hatchOn (E σ) (nI c) (nI f) (nI n)).bind fun (_, S) => some S))) := by
  by_cases g : σ 0 < 10
  · obtain ⟨t1, t2⟩ := add_t h hW g hc hf hn1 hn
    refine ⟨_, _, ?_, ?_, t2, hat_WF hW g hc hf hn1 hn⟩
    · rw [t1]; rfl
    · rw [canHatch_t g hc hf hn1 hn, Option.bind_some, if_neg (show ¬ nI 1 = 0 from by decide), hatchOn_E g]; rfl
  · have h0 := hW.1
    refine ⟨κ, σ, ?_, ?_, h, hW⟩
    · rw [add_f h hW (fun _ _ _ _ _ _ _ _ _ _ => by omega)]; rfl
    · rw [canHatch_f h0 (fun _ _ _ _ _ _ _ _ _ _ => by omega), Option.bind_some, if_pos (show nI 0 = 0 from rfl)]
theorem rw_shut (h : Rep 0 κ σ) (hW : WF σ) (hc : c < 36) (t : Bool) : RW ((fX0_setShut (E κ) (nI c) (nI (bN t))).bind fun (_, T) => some T) ((fX4_canShut (E σ) (nI c) (nI (bN t))).bind fun r_5 => (if r_5 = 0 then some (E σ) else ((fX4_shutOn (E σ) (nI c) (nI (bN t))).bind fun (_, S) => some S))) := by
  have e3 := setShut_c h hW hc t
  have b1 : bN t ≤ 1 := by have := bN_lt t; omega
  rw [canShut_E hW hc, Option.bind_some]
  cases gq : (!t || tk σ c == 4294967295)
  · rw [gq, if_neg ff0] at e3
    rw [if_pos (show nI (bN false) = 0 from rfl), e3]
    exact ⟨κ, σ, rfl, rfl, h, hW⟩
  · rw [gq, if_pos rfl] at e3
    rw [if_neg (show ¬ nI (bN true) = 0 from by decide), e3, shutOn_E hc]
    exact ⟨_, _, rfl, rfl, rep_shut h hW hc b1, shut_WF hW hc b1⟩
theorem rw_rule (h : Rep 0 κ σ) (hW : WF σ) (hv : v ≤ 2) : RW ((fX0_setRule (E κ) (nI v)).bind fun (_, T) => some T) ((fX4_ruleOn (E σ) (nI v)).bind fun (_, S) => some S) := by
  rw [setRule_t hv, ruleOn_E]
  exact ⟨_, _, rfl, rfl, rep_rule h hW hv, rule_WF hW hv⟩
theorem rw_pull (h : Rep 0 κ σ) (hW : WF σ) (hi : i < 10) : RW ((fX0_pullOut (E κ) (nI i)).bind fun (_, T) => some T) ((fX4_canPull (E σ) (nI i)).bind fun r_16 => (if r_16 = 0 then some (E σ) else ((fX4_pullOn (E σ) (nI i)).bind fun (_, S) => some S))) := by
  by_cases hu : uw σ i = true
  · have hlt := uw_lt hu
    obtain ⟨κ', t1, t2⟩ := pullOut_t h hW hlt.1 hlt.2
    rw [t1, canPull_E hW hlt.1, Option.bind_some, decide_eq_true (show σ (40 + 18 * i) < 2 by omega), Option.bind_some, if_neg (show ¬ nI (bN true) = 0 from by decide), pullOn_E hi]
    exact ⟨_, _, rfl, rfl, t2, pull_WF hW hlt.1⟩
  · have hu2 : uw σ i = false := by simpa using hu
    have ec : fX4_canPull (E σ) (nI i) = some (nI 0) := by
      by_cases z : i < σ 0
      · rw [canPull_E hW z, decide_eq_false (show ¬ σ (40 + 18 * i) < 2 from fun y => by simp [uw, z, y] at hu2)]; rfl
      · exact canPull_f hW.1 (fun n hn e => by have := hW.1; have := (m_eq (by omega) (by omega)).mp e; omega)
    rw [pullOut_f h hW hi hu2, ec, Option.bind_some, Option.bind_some, if_pos (show nI 0 = 0 from rfl)]
    exact ⟨_, _, rfl, rfl, h, hW⟩
theorem rw_ticks (h : Rep 0 κ σ) (hW : WF σ) (h1 : 1 ≤ v) (h2 : v ≤ 60) : RW ((fX0_runTicks (E κ) (nI v)).bind fun (_, T) => some T) ((fX4_ticksOn (E σ) (nI v)).bind fun (_, S) => some S) := by
  obtain ⟨κ', t1, t2⟩ := runTicks_c h hW h1 h2
  rw [t1, ticksOn_E hW (by omega)]
  exact ⟨_, _, rfl, rfl, t2, ticks_WF _ _ hW⟩
theorem turn_c (h : Rep 0 κ σ) (hW : WF σ) (hv : v < 2147483648) : RW (fX3_takeTurn la cn us ch C G sv (E κ) B (nI v)) (fX4_turn (E σ) (nI v)) := by
  have e8 : nI v - nI v / 8 * 8 = nI (v % 8) := md (k := 8) hv (by omega) (by omega)
  have d8 : nI v / 8 = nI (v / 8) := m_div (d := 8) hv (by omega) (by omega)
  have a1 : v / 8 < 2147483648 := by omega
  generalize v / 8 = a at d8 a1
  have hr : v % 8 < 8 := Nat.mod_lt _ (by omega)
  generalize v % 8 = r at e8 hr
  have e36 : nI a - nI a / 36 * 36 = nI (a % 36) := md (k := 36) a1 (by omega) (by omega)
  have f36 : nI a / 36 - nI a / 36 / 36 * 36 = nI (a / 36 % 36) := by
    rw [show nI a / 36 = nI (a / 36) from m_div (d := 36) a1 (by omega) (by omega)]
    exact md (k := 36) (by omega) (by omega) (by omega)
  have n9 : 1 + (nI a / 1296 - nI a / 1296 / 9 * 9) = nI (1 + a / 1296 % 9) := by
    rw [show nI a / 1296 = nI (a / 1296) from m_div (d := 1296) a1 (by omega) (by omega), show nI (a / 1296) - nI (a / 1296) / 9 * 9 = nI (a / 1296 % 9) from md (k := 9) (by omega) (by omega) (by omega)]
    exact m_add 1 _
  have e3 : nI a - nI a / 3 * 3 = nI (a % 3) := md (k := 3) a1 (by omega) (by omega)
  have e10 : nI a - nI a / 10 * 10 = nI (a % 10) := md (k := 10) a1 (by omega) (by omega)
  have e12 : 1 + (nI a - nI a / 12 * 12) = nI (1 + a % 12) := by
    rw [show nI a - nI a / 12 * 12 = nI (a % 12) from md (k := 12) a1 (by omega) (by omega)]
    exact m_add 1 _
  have q4 : nI a / 4 - nI a / 4 / 4 * 4 = nI (a / 4 % 4) := by
    rw [show nI a / 4 = nI (a / 4) from m_div (d := 4) a1 (by omega) (by omega)]
    exact md (k := 4) (by omega) (by omega) (by omega)
  have q64 : nI a / 64 - nI a / 64 / 4 * 4 = nI (a / 64 % 4) := by
    rw [show nI a / 64 = nI (a / 64) from m_div (d := 64) a1 (by omega) (by omega)]
    exact md (k := 4) (by omega) (by omega) (by omega)
  have q16 : nI a / 16 - nI a / 16 / 4 * 4 = nI (a / 16 % 4) := by
    rw [show nI a / 16 = nI (a / 16) from m_div (d := 16) a1 (by omega) (by omega)]
    exact md (k := 4) (by omega) (by omega) (by omega)
  unfold fX3_takeTurn fX4_turn fX3_takeTurn_120 fX4_turn_115 fX4_turn_140
  rw [d8] at e8
  simp only [d8, e8, e36, f36, n9, e3, e10, e12, q4, q64, q16]
  have E1 : ∀ c : Nat, c < 100 → (nI r = nI c ↔ r = c) := fun c hc => m_eq (by omega) (by omega)
  have L3 : (3 : Int32) ≤ nI r ↔ 3 ≤ r := m_le (a := 3) (by omega) (by omega)
  have Z : ∀ b : Nat, b < 4 → (nI b = 0 ↔ b = 0) := fun b hb => m_eq (b := 0) (by omega) (by omega)
  by_cases g0 : r = 0
  · rw [if_pos (show nI r = 0 from (E1 0 (by omega)).mpr g0), if_neg (show ¬ (3 : Int32) ≤ nI r from fun e => by have := L3.mp e; omega)]
    exact rw_hatch h hW (by omega) (by omega) (by omega) (by omega)
  by_cases g1 : r = 1
  · rw [if_neg (show ¬ nI r = 0 from fun e => g0 ((E1 0 (by omega)).mp e)), if_pos (show nI r = 1 from (E1 1 (by omega)).mpr g1), if_neg (show ¬ (3 : Int32) ≤ nI r from fun e => by have := L3.mp e; omega)]
    exact rw_hatch h hW (by omega) (by omega) (by omega) (by omega)
  by_cases g2 : r = 2
  · rw [if_neg (show ¬ nI r = 0 from fun e => g0 ((E1 0 (by omega)).mp e)), if_neg (show ¬ nI r = 1 from fun e => g1 ((E1 1 (by omega)).mp e)), if_pos (show nI r = 2 from (E1 2 (by omega)).mpr g2), if_neg (show ¬ (3 : Int32) ≤ nI r from fun e => by have := L3.mp e; omega)]
    exact rw_hatch h hW (by omega) (by omega) (by omega) (by omega)
  rw [if_neg (show ¬ nI r = 0 from fun e => g0 ((E1 0 (by omega)).mp e)), if_neg (show ¬ nI r = 1 from fun e => g1 ((E1 1 (by omega)).mp e)), if_neg (show ¬ nI r = 2 from fun e => g2 ((E1 2 (by omega)).mp e)), if_pos (show (3 : Int32) ≤ nI r from L3.mpr (by omega))]
  by_cases g3 : r = 3
  · rw [if_pos (show nI r = 3 from (E1 3 (by omega)).mpr g3), if_pos (show nI r = 3 from (E1 3 (by omega)).mpr g3)]
    by_cases k4 : a / 4 % 4 = 0
    · rw [if_pos ((Z _ (by omega)).mpr k4), if_pos ((Z _ (by omega)).mpr k4)]
      exact rw_rule h hW (by omega)
    · rw [if_neg (fun e => k4 ((Z _ (by omega)).mp e)), if_neg (fun e => k4 ((Z _ (by omega)).mp e))]
      by_cases k64 : a / 64 % 4 = 0
      · have z := (Z _ (by omega)).mpr k64
        simp only [if_pos z]
        exact rw_shut h hW (show a % 36 < 36 by omega) true
      · have z : ¬ nI (a / 64 % 4) = 0 := fun e => k64 ((Z _ (by omega)).mp e)
        simp only [if_neg z]
        exact rw_shut h hW (show a % 36 < 36 by omega) false
  rw [if_neg (show ¬ nI r = 3 from fun e => g3 ((E1 3 (by omega)).mp e)), if_neg (show ¬ nI r = 3 from fun e => g3 ((E1 3 (by omega)).mp e))]
  by_cases g4 : r = 4
  · rw [if_pos (show nI r = 4 from (E1 4 (by omega)).mpr g4), if_pos (show nI r = 4 from (E1 4 (by omega)).mpr g4)]
    have zl : nI (a / 16 % 4) ≤ 0 ↔ a / 16 % 4 = 0 := by
      have := m_le (a := a / 16 % 4) (b := 0) (by omega) (by omega)
      constructor
      · intro e; have := this.mp e; omega
      · intro e; exact this.mpr (by omega)
    by_cases k16 : a / 16 % 4 = 0
    · rw [if_pos ((Z _ (by omega)).mpr k16), if_pos (zl.mpr k16)]
      exact rw_pull h hW (by omega)
    · rw [if_neg (fun e => k16 ((Z _ (by omega)).mp e)), if_neg (fun e => k16 (zl.mp e))]
      exact rw_ticks (v := 1) h hW (by omega) (by omega)
  rw [if_neg (show ¬ nI r = 4 from fun e => g4 ((E1 4 (by omega)).mp e)), if_neg (show ¬ nI r = 4 from fun e => g4 ((E1 4 (by omega)).mp e))]
  exact rw_ticks h hW (by omega) (by omega)
end TRN
