/-! THE JOINT STATE of the class and the reference: the present, what is remembered, what is kept -/
def GTd (d : Nat) (σ : Nat → Nat) : Prop := ∀ i, i < σ 0 → σ (40 + 18 * i) = 2 → σ (40 + 18 * i + 5) ≤ σ 1 + d
def OKS (m : Nat) (κ σ : Nat → Nat) : Prop := Rep 0 κ σ ∧ WF σ ∧ GTd 0 σ ∧ σ 1 ≤ m
/-- a place of the shelf and a page of the diary hold the same house -/
def Same (m : Nat) (G : Nat → Int32) (p : Nat) (dy : Nat → Int32) (q : Nat) : Prop := ∃ κ σ, OKS m κ σ ∧ (∀ x, x < 256 → G (256 * p + x) = nI (κ x)) ∧ (∀ x, x < 220 → dy (220 * q + x) = nI (σ x))
def Hist (m : Nat) (G dy : Nat → Int32) (a b : Nat) : Prop := a ≤ 14 ∧ b < 14 ∧ ∀ j, j < a → Same m G ((b + 14 - j) % 14) dy (a - 1 - j)
def Slots (m : Nat) (G sv kp ik : Nat → Int32) : Prop := ∀ s, s < 2 → sv s = ik s ∧ (sv s ≠ 0 → Same m G (14 + s) kp s)
def ST (m : Nat) (la cn : Int32) (C G sv : Nat → Int32) (ac : Int32) (N dy kp ik : Nat → Int32) : Prop := ∃ a b κ σ, la = nI b ∧ cn = nI a ∧ ac = nI a ∧ C = E κ ∧ N = E σ ∧ OKS m κ σ ∧ Hist m G dy a b ∧ Slots m G sv kp ik
section HST
variable {σ τ κ : Nat → Nat} {d i k w v x m m2 a b p q : Nat} {C G sv N dy kp ik : Nat → Int32}
theorem OKS.mono (h : OKS m κ σ) (hm : m ≤ m2) : OKS m2 κ σ := ⟨h.1, h.2.1, h.2.2.1, by have := h.2.2.2; omega⟩
theorem Same.mono (h : Same m G p dy q) (hm : m ≤ m2) : Same m2 G p dy q := by
  obtain ⟨κ, σ, h1, h2⟩ := h
  exact ⟨κ, σ, h1.mono hm, h2⟩
theorem Hist.mono (h : Hist m G dy a b) (hm : m ≤ m2) : Hist m2 G dy a b := ⟨h.1, h.2.1, fun j hj => (h.2.2 j hj).mono hm⟩
theorem Slots.mono (h : Slots m G sv kp ik) (hm : m ≤ m2) : Slots m2 G sv kp ik := fun s hs => ⟨(h s hs).1, fun z => ((h s hs).2 z).mono hm⟩
theorem Same.congr {G2 dy2 : Nat → Int32} {p2 q2 : Nat} (h : Same m G p dy q) (hG : ∀ x, x < 256 → G2 (256 * p2 + x) = G (256 * p + x)) (hd : ∀ x, x < 220 → dy2 (220 * q2 + x) = dy (220 * q + x)) : Same m G2 p2 dy2 q2 := by
  obtain ⟨κ, σ, h1, h2, h3⟩ := h
  exact ⟨κ, σ, h1, fun x hx => (hG x hx).trans (h2 x hx), fun x hx => (hd x hx).trans (h3 x hx)⟩
theorem OKS.congr {κ' σ' : Nat → Nat} (h : OKS m κ σ) (hk : ∀ x, x < 256 → κ' x = κ x) (hs : ∀ x, x < 220 → σ' x = σ x) : OKS m κ' σ' := by
  obtain ⟨h1, h2, h3, h4⟩ := h
  obtain ⟨r1, r2⟩ := Rep_congr h1 h2 hk hs
  have h0 := h2.1
  have e0 := hs 0 (by omega)
  refine ⟨r1, r2, fun i hi g => ?_, by rw [hs 1 (by omega)]; exact h4⟩
  rw [hs _ (by omega)] at g
  rw [hs _ (by omega), hs 1 (by omega)]
  exact h3 i (by omega) g
theorem isPlace_c (hp : p < 16) : fX1_isPlace (nI p) = some (nI 1) := by
  simp (disch := omega) only [fX1_isPlace, Nat.add_zero, upN_ne, upN_same, m_lit, m_neg1, m_add, m_mul, m_sub, m_div, m_le, m_lt, m_eq, m_cl, m_gd, m_E, m_upd, m_isz0, m_isz1, Option.bind_some]
  rw [if_neg (by omega), if_neg (by omega)]
theorem cpok_c {a b n x y : Nat} (h1 : a + n ≤ x) (h2 : b + n ≤ y) (hx : x < 2147483648) (hy : y < 2147483648) : (cpok (nI a) (nI b) (nI n) x y) = true := by
  simp only [cpok, m_cl (show a < 2147483648 by omega), m_cl (show b < 2147483648 by omega), m_cl (show n < 2147483648 by omega), Bool.and_eq_true, decide_eq_true_eq]
  exact ⟨⟨⟨⟨nI_pos (by omega), nI_pos (by omega)⟩, nI_pos (by omega)⟩, h1⟩, h2⟩
theorem writeTo_c (hp : p < 16) : fX0_writeTo C G (nI p) = some (va_cpy C G 0 (256 * p) 256) := by
  unfold fX0_writeTo
  rw [isPlace_c hp, Option.bind_some, if_neg (show ¬ nI 1 = 0 from by decide), show (256 : Int32) = nI 256 from rfl, m_mul, m_cl (by omega)]
  show gz (cpok (nI 0) (nI (p * 256)) (nI 256) 256 4096) _ = _
  rw [gz_in (cpok_c (by omega) (by omega) (by omega) (by omega)), Nat.mul_comm]
theorem readFrom_c (hp : p < 16) : fX0_readFrom C G (nI p) = some (va_cpy G C (256 * p) 0 256) := by
  unfold fX0_readFrom
  rw [isPlace_c hp, Option.bind_some, if_neg (show ¬ nI 1 = 0 from by decide), show (256 : Int32) = nI 256 from rfl, m_mul, m_cl (by omega)]
  show gz (cpok (nI (p * 256)) (nI 0) (nI 256) 4096 256) _ = _
  rw [gz_in (cpok_c (by omega) (by omega) (by omega) (by omega)), Nat.mul_comm]
theorem cpy_in {F : Nat → Int32} {s t n : Nat} (hx : x < n) : va_cpy F G s t n (t + x) = F (s + x) := by
  unfold va_cpy
  rw [if_pos (by omega)]
  congr 1
  omega
theorem cpy_o {F : Nat → Int32} {s t n : Nat} (hx : x < t ∨ t + n ≤ x) : va_cpy F G s t n x = G x := by
  unfold va_cpy
  rw [if_neg (by omega)]
/-- a house read from a place and a page -/
theorem back (h : Same m G p dy q) : ∃ κ' σ', va_cpy G C (256 * p) 0 256 = E κ' ∧ va_cpy dy N (220 * q) 0 220 = E σ' ∧ OKS m κ' σ' := by
  obtain ⟨κ, σ, h1, h2, h3⟩ := h
  refine ⟨fun x => if x < 256 then κ x else (C x).toBitVec.toNat, fun x => if x < 220 then σ x else (N x).toBitVec.toNat, ?_, ?_, ?_⟩
  · funext x
    unfold va_cpy E
    dsimp only
    by_cases g : x < 256
    · rw [if_pos (by omega), if_pos g, ← h2 x g, Nat.sub_zero]
    · rw [if_neg (by omega), if_neg g]
      obtain ⟨n, hn, e⟩ := nI_sur (C x)
      rw [e, nI_tn, Nat.mod_eq_of_lt hn]
  · funext x
    unfold va_cpy E
    dsimp only
    by_cases g : x < 220
    · rw [if_pos (by omega), if_pos g, ← h3 x g, Nat.sub_zero]
    · rw [if_neg (by omega), if_neg g]
      obtain ⟨n, hn, e⟩ := nI_sur (N x)
      rw [e, nI_tn, Nat.mod_eq_of_lt hn]
  · exact h1.congr (fun x hx => if_pos hx) (fun x hx => if_pos hx)
/-- the diary's pages move down by one -/
def shD (dy : Nat → Int32) (j : Nat) : Nat → Int32 := fun x => if x < j then dy (x + 220) else dy x
theorem rem11 (hN : N = N) : ∀ n j, j ≤ 2860 → 2860 - j < n → fX4_remember_11 N n (nI j) (nI 14) (shD dy j) = fX4_remember_50 N (nI 13) (shD dy 2860) := by
  intro n
  induction n with
  | zero => intro j _ h; omega
  | succ n ih =>
    intro j hj hn
    rw [fX4_remember_11]
    by_cases h1 : 2860 ≤ j
    · simp (disch := omega) only [Nat.add_zero, upN_ne, upN_same, m_lit, m_neg1, m_add, m_mul, m_sub, m_div, m_le, m_lt, m_eq, m_cl, m_gd, m_E, m_upd, m_isz0, m_isz1, Option.bind_some]
      rw [if_pos h1, show j = 2860 by omega]
    · simp (disch := omega) only [Nat.add_zero, upN_ne, upN_same, m_lit, m_neg1, m_add, m_mul, m_sub, m_div, m_le, m_lt, m_eq, m_cl, m_gd, m_E, m_upd, m_isz0, m_isz1, Option.bind_some]
      rw [if_neg h1]
      have e : upd (shD dy j) j (shD dy j (j + 220)) = shD dy (j + 1) := by
        funext x
        unfold upd shD
        by_cases g : x = j
        · rw [if_pos g, if_neg (by omega), if_pos (by omega), g]
        · rw [if_neg g]
          by_cases g2 : x < j
          · rw [if_pos g2, if_pos (by omega)]
          · rw [if_neg g2, if_neg (by omega)]
      rw [e]
      exact ih (j + 1) (by omega) (by omega)
theorem rem50 (ha : a ≤ 13) : fX4_remember_50 N (nI a) dy = some (nI (a + 1), va_cpy N dy 0 (220 * a) 220) := by
  unfold fX4_remember_50
  rw [show (220 : Int32) * nI a = nI (220 * a) from m_mul 220 a, show (0 : Int32) = nI 0 from rfl, copyState_E 220 3080 N dy (by omega) (by omega) (by omega) (by omega), Option.bind_some]
  rw [show (1 : Int32) = nI 1 from rfl, m_add]
end HST
section RMB
variable {σ τ κ : Nat → Nat} {d i k w v x m m2 a b p q : Nat} {la cn us : Int32} {ch : Nat → Int32} {C G sv T B : Nat → Int32} {O : Nat → Int64} {rf zs ac sp ou : Int32} {mt N jT jO dy kp ik : Nat → Int32}
theorem remember_c (hb : b < 14) : fX3_remember (nI b) (nI a) us ch C G sv T B = if 14 ≤ nI a then some (nI ((b + 1) % 14), nI a, va_cpy C G 0 (256 * ((b + 1) % 14)) 256) else some (nI ((b + 1) % 14), nI (a + 1), va_cpy C G 0 (256 * ((b + 1) % 14)) 256) := by
  have e : nI b + 1 - (nI b + 1) / 14 * 14 = nI ((b + 1) % 14) := by
    rw [show (1 : Int32) = nI 1 from rfl, show (14 : Int32) = nI 14 from rfl, m_add, m_div (by omega) (by omega) (by omega), m_mul, m_sub (by omega)]
    congr 1
    omega
  unfold fX3_remember
  rw [e, writeTo_c (by omega), Option.bind_some, ← m_add]
  rfl
theorem remember_E (ha : a ≤ 14) : ∃ dy', fX4_remember rf zs (nI a) sp ou mt N jT jO dy kp ik = some (nI (if a = 14 then 14 else a + 1), dy') ∧ (∀ x, x < 220 → dy' (220 * (if a = 14 then 13 else a) + x) = N x) ∧ (∀ j x, 1 ≤ j → j < (if a = 14 then 14 else a + 1) → x < 220 → dy' (220 * ((if a = 14 then 14 else a + 1) - 1 - j) + x) = dy (220 * (a - 1 - (j - 1)) + x)) := by
  unfold fX4_remember
  by_cases g : a = 14
  · subst g
    have e0 : shD dy 0 = dy := by
      funext x
      unfold shD
      rw [if_neg (by omega)]
    have := rem11 (dy := dy) (N := N) rfl 5000 0 (by omega) (by omega)
    rw [e0] at this
    refine ⟨va_cpy N (shD dy 2860) 0 (220 * 13) 220, ?_, ?_, ?_⟩
    · rw [if_pos (show nI 14 = 14 from rfl)]
      refine this.trans ?_
      rw [rem50 (by omega), if_pos rfl]
    · intro x hx
      rw [if_pos rfl, cpy_in hx, Nat.zero_add]
    · intro j x h1 h2 hx
      rw [if_pos rfl] at h2 ⊢
      rw [cpy_o (by omega)]
      unfold shD
      rw [if_pos (by omega), show 220 * (14 - 1 - j) + x + 220 = 220 * (14 - 1 - (j - 1)) + x by omega]
  · refine ⟨va_cpy N dy 0 (220 * a) 220, ?_, ?_, ?_⟩
    · rw [if_neg (show ¬ nI a = 14 from fun e => g ((m_eq (b := 14) (by omega) (by omega)).mp e)), if_neg g]
      exact rem50 (by omega)
    · intro x hx
      rw [if_neg g, cpy_in hx, Nat.zero_add]
    · intro j x h1 h2 hx
      rw [if_neg g] at h2 ⊢
      rw [cpy_o (by omega)]
      congr 1
      omega
/-- what both remember is the same -/
theorem rmb (hO : OKS m κ σ) (hH : Hist m G dy a b) (hS : Slots m G sv kp ik) : ∃ a' b' G' dy', fX3_remember (nI b) (nI a) us ch (E κ) G sv T B = some (nI b', nI a', G') ∧ fX4_remember rf zs (nI a) sp ou mt (E σ) jT jO dy kp ik = some (nI a', dy') ∧ Hist m G' dy' a' b' ∧ Slots m G' sv kp ik := by
  obtain ⟨ha, hb, hh⟩ := hH
  obtain ⟨dy', e2, d1, d2⟩ := remember_E (rf := rf) (zs := zs) (sp := sp) (ou := ou) (mt := mt) (N := E σ) (jT := jT) (jO := jO) (dy := dy) (kp := kp) (ik := ik) ha
  refine ⟨if a = 14 then 14 else a + 1, (b + 1) % 14, va_cpy (E κ) G 0 (256 * ((b + 1) % 14)) 256, dy', ?_, e2, ?_, ?_⟩
  · rw [remember_c hb]
    by_cases g : a = 14
    · rw [if_pos (show 14 ≤ nI a from by rw [g]; decide), if_pos g, g]
    · rw [if_neg (show ¬ 14 ≤ nI a from fun e => by have := (m_le (a := 14) (by omega) (by omega)).mp e; omega), if_neg g]
  · have ha' : (if a = 14 then 14 else a + 1) ≤ 14 := by split <;> omega
    refine ⟨ha', by omega, fun j hj => ?_⟩
    by_cases z : j = 0
    · subst z
      refine ⟨κ, σ, hO, fun x hx => ?_, fun x hx => ?_⟩
      · rw [show ((b + 1) % 14 + 14 - 0) % 14 = (b + 1) % 14 by omega, cpy_in hx, Nat.zero_add]; rfl
      · rw [show (if a = 14 then 14 else a + 1) - 1 - 0 = if a = 14 then 13 else a by split <;> omega]
        exact d1 x hx
    · have hj2 : j - 1 < a := by
        split at hj <;> omega
      refine (hh (j - 1) hj2).congr (fun x hx => ?_) (fun x hx => d2 j x (by omega) hj hx)
      have e : ((b + 1) % 14 + 14 - j) % 14 = (b + 14 - (j - 1)) % 14 := by omega
      rw [e, cpy_o (by omega)]
  · intro s hs
    refine ⟨(hS s hs).1, fun z => ((hS s hs).2 z).congr (fun x hx => ?_) (fun x hx => rfl)⟩
    rw [cpy_o (by omega)]
end RMB
