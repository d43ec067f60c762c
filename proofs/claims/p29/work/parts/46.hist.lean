/-! THE JOINT STATE of the class and the reference: the present, what is remembered, what is kept -/
def GTd (d : Nat) (σ : Nat → Nat) : Prop := ∀ i, i < σ 0 → σ (40 + 18 * i) = 2 → σ (40 + 18 * i + 5) ≤ σ 1 + d
def OKS (m : Nat) (κ σ : Nat → Nat) : Prop := Rep 0 κ σ ∧ WF σ ∧ GTd 0 σ ∧ σ 1 ≤ m
/-- a place of the shelf and a page of the diary hold the same house -/
def Same (m : Nat) (G : Nat → Int32) (p : Nat) (dy : Nat → Int32) (q : Nat) : Prop := ∃ κ σ, OKS m κ σ ∧ (∀ x, x < 256 → G (256 * p + x) = nI (κ x)) ∧ (∀ x, x < 220 → dy (220 * q + x) = nI (σ x))
def Hist (m : Nat) (G dy : Nat → Int32) (a b : Nat) : Prop := a ≤ 14 ∧ b < 14 ∧ ∀ j, j < a → Same m G ((b + 14 - j) % 14) dy (a - 1 - j)
def Slots (m : Nat) (G sv kp ik : Nat → Int32) : Prop := ∀ s, s < 2 → sv s = ik s ∧ (sv s ≠ 0 → Same m G (14 + s) kp s)
def ST (m : Nat) (la cn : Int32) (C G sv : Nat → Int32) (ac : Int32) (N dy kp ik : Nat → Int32) : Prop := ∃ a b κ σ, la = nI b ∧ cn = nI a ∧ ac = nI a ∧ C = E κ ∧ N = E σ ∧ OKS m κ σ ∧ Hist m G dy a b ∧ Slots m G sv kp ik
section HST
variable {σ τ κ : Nat → Nat} {d i k w v x m m2 a b p q : Nat} {C G sv N dy kp ik : Nat → Int32}
theorem OKS.mono (h : OKS m κ σ) (hm : m ≤ m2) : OKS m2 κ σ := ⟨h.1, h.2.1, h.2.2.1, by have := h.2.2.2; omega⟩
theorem Same.mono (h : Same m G p dy q) (hm : m ≤ m2) : Same m2 G p dy q := by
  obtain ⟨κ, σ, h1, h2⟩ := h
  exact ⟨κ, σ, h1.mono hm, h2⟩
theorem Hist.mono (h : Hist m G dy a b) (hm : m ≤ m2) : Hist m2 G dy a b := ⟨h.1, h.2.1, fun j hj => (h.2.2 j hj).mono hm⟩
theorem Slots.mono (h : Slots m G sv kp ik) (hm : m ≤ m2) : Slots m2 G sv kp ik := fun s hs => ⟨(h s hs).1, fun z => ((h s hs).2 z).mono hm⟩
theorem Same.congr {G2 dy2 : Nat → Int32} {p2 q2 : Nat} (h : Same m G p dy q) (hG : ∀ x, x < 256 → G2 (256 * p2 + x) = G (256 * p + x)) (hd : ∀ x, x < 220 → dy2 (220 * q2 + x) = dy (220 * q + x)) : Same m G2 p2 dy2 q2 := by
  obtain ⟨κ, σ, h1, h2, h3⟩ := h
  exact ⟨κ, σ, h1, fun x hx => (hG x hx).trans (h2 x hx), fun x hx => (hd x hx).trans (h3 x hx)⟩
theorem OKS.congr {κ' σ' : Nat → Nat} (h : OKS m κ σ) (hk : ∀ x, x < 256 → κ' x = κ x) (hs : ∀ x, x < 220 → σ' x = σ x) : OKS m κ' σ' := by
  obtain ⟨h1, h2, h3, h4⟩ := h
  obtain ⟨r1, r2⟩ := Rep_congr h1 h2 hk hs
  have h0 := h2.1
  have e0 := hs 0 (by omega)
  refine ⟨r1, r2, fun i hi g => ?_, by rw [hs 1 (by omega)]; exact h4⟩
  rw [hs _ (by omega)] at g
  rw [hs _ (by omega), hs 1 (by omega)]
  exact h3 i (by omega) g
theorem isPlace_c (hp : p < 16) : fX1_isPlace (nI p) = some (nI 1) := by
  simp (disch := omega) only [fX1_isPlace, Nat.add_zero, upN_ne, upN_same, m_lit, m_neg1, m_add, m_mul, m_sub, m_div, m_le, m_lt, m_eq, m_cl, m_gd, m_E, m_upd, m_isz0, m_isz1, Option.bind_some]
  rw [if_neg (by omega), if_neg (by omega)]
theorem cpok_c {a b n x y : Nat} (h1 : a + n ≤ x) (h2 : b + n ≤ y) (hx : x < 2147483648) (hy : y < 2147483648) : (cpok (nI a) (nI b) (nI n) x y) = true := by
  simp only [cpok, m_cl (show a < 2147483648 by omega), m_cl (show b < 2147483648 by omega), m_cl (show n < 2147483648 by omega), Bool.and_eq_true, decide_eq_true_eq]
  exact ⟨⟨⟨⟨nI_pos (by omega), nI_pos (by omega)⟩, nI_pos (by omega)⟩, h1⟩, h2⟩
theorem writeTo_c (hp : p < 16) : fX0_writeTo C G (nI p) = some (va_cpy C G 0 (256 * p) 256) := by
  unfold fX0_writeTo
  rw [isPlace_c hp, Option.bind_some, if_neg (show ¬ nI 1 = 0 from by decide), show (256 : Int32) = nI 256 from rfl, m_mul, m_cl (by omega)]
  show gz (cpok (nI 0) (nI (p * 256)) (nI 256) 256 4096) _ = _
  rw [gz_in (cpok_c (by omega) (by omega) (by omega) (by omega)), Nat.mul_comm]
theorem readFrom_c (hp : p < 16) : fX0_readFrom C G (nI p) = some (va_cpy G C (256 * p) 0 256) := by
  unfold fX0_readFrom
  rw [isPlace_c hp, Option.bind_some, if_neg (show ¬ nI 1 = 0 from by decide), show (256 : Int32) = nI 256 from rfl, m_mul, m_cl (by omega)]
  show gz (cpok (nI (p * 256)) (nI 0) (nI 256) 4096 256) _ = _
  rw [gz_in (cpok_c (by omega) (by omega) (by omega) (by omega)), Nat.mul_comm]
theorem cpy_in {F : Nat → Int32} {s t n : Nat} (hx : x < n) : va_cpy F G s t n (t + x) = F (s + x) := by
  unfold va_cpy
  rw [if_pos (by omega)]
  congr 1
  omega
theorem cpy_o {F : Nat → Int32} {s t n : Nat} (hx : x < t ∨ t + n ≤ x) : va_cpy F G s t n x = G x := by
  unfold va_cpy
  rw [if_neg (by omega)]
/-- the diary's pages move down by one -/
def shD (dy : Nat → Int32) (j : Nat) : Nat → Int32 := fun x => if x < j then dy (x + 220) else dy x
end HST
section RMB
variable {σ τ κ : Nat → Nat} {d i k w v x m m2 a b p q : Nat} {la cn us : Int32} {ch : Nat → Int32} {C G sv T B : Nat → Int32} {O : Nat → Int64} {rf zs ac sp ou : Int32} {mt N jT jO dy kp ik : Nat → Int32}
theorem remember_c (hb : b < 14) : fX3_remember (nI b) (nI a) us ch C G sv T B = if 14 ≤ nI a then some (nI ((b + 1) % 14), nI a, va_cpy C G 0 (256 * ((b + 1) % 14)) 256) else some (nI ((b + 1) % 14), nI (a + 1), va_cpy C G 0 (256 * ((b + 1) % 14)) 256) := by
  have e : nI b + 1 - (nI b + 1) / 14 * 14 = nI ((b + 1) % 14) := by
    rw [show (1 : Int32) = nI 1 from rfl, show (14 : Int32) = nI 14 from rfl, m_add, m_div (by omega) (by omega) (by omega), m_mul, m_sub (by omega)]
    congr 1
    omega
  unfold fX3_remember
  rw [e, writeTo_c (by omega), Option.bind_some, ← m_add]
  rfl
end RMB
