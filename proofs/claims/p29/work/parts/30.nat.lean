/-! NATURAL NUMBERS for the rows: a row of ints as a function to Nat, -1 as 2^32 - 1 -/
def E (σ : Nat → Nat) : Nat → Int32 := fun k => nI (σ k)
def upN (σ : Nat → Nat) (k v : Nat) : Nat → Nat := fun j => if j = k then v else σ j
theorem upN_same (σ : Nat → Nat) (k v : Nat) : upN σ k v k = v := by simp [upN]
theorem upN_ne {σ : Nat → Nat} {k v j : Nat} (h : j ≠ k) : upN σ k v j = σ j := by simp [upN, h]
theorem m_lit (n : Nat) : (OfNat.ofNat n : Int32) = nI n := rfl
theorem m_neg1 : -(nI 1) = nI 4294967295 := by decide
theorem m_add (a b : Nat) : nI a + nI b = nI (a + b) := nI_add a b
theorem m_mul (a b : Nat) : nI a * nI b = nI (a * b) := pk_mul a b
theorem m_sub {a b : Nat} (h : b ≤ a) : nI a - nI b = nI (a - b) := pk_sub h
theorem m_div {a d : Nat} (ha : a < 2147483648) (h0 : 0 < d) (hd : d < 2147483648) : nI a / nI d = nI (a / d) := pk_div ha h0 hd
theorem m_le {a b : Nat} (ha : a < 2147483648) (hb : b < 2147483648) : nI a ≤ nI b ↔ a ≤ b := nI_leI ha hb
theorem m_lt {a b : Nat} (ha : a < 2147483648) (hb : b < 2147483648) : nI a < nI b ↔ a < b := nI_ltI ha hb
theorem nI_tn (a : Nat) : (nI a).toBitVec.toNat = a % 4294967296 := by
  show (BitVec.ofNat 32 a).toNat = _
  simp
theorem m_eq {a b : Nat} (ha : a < 4294967296) (hb : b < 4294967296) : nI a = nI b ↔ a = b := by
  constructor
  · intro h
    have h1 := congrArg (fun x : Int32 => x.toBitVec.toNat) h
    simp only [nI_tn] at h1
    omega
  · intro h; rw [h]
theorem m_cl {a : Nat} (ha : a < 2147483648) : (nI a).toNatClampNeg = a := nI_clamp ha
theorem m_gd {α : Type} {i n : Nat} {k : Option α} (h : i < n) (hn : n < 2147483648) : gd (nI i) n k = k := gd_in (vp_in_nI h hn)
theorem m_E (σ : Nat → Nat) (k : Nat) : E σ k = nI (σ k) := rfl
theorem m_upd (σ : Nat → Nat) (k v : Nat) : upd (E σ) k (nI v) = E (upN σ k v) := by
  funext j
  show (if j = k then nI v else nI (σ j)) = nI (if j = k then v else σ j)
  split <;> rfl
theorem m_isz0 {α : Type} {k : Option α} : gz (isz (nI 0)) k = k := gz_in (by decide)
theorem m_isz1 {α : Type} {k : Option α} : gz (isz (nI 1)) k = k := gz_in (by decide)
theorem nI_sur (x : Int32) : ∃ n, n < 4294967296 ∧ x = nI n := by
  refine ⟨x.toBitVec.toNat, x.toBitVec.isLt, ?_⟩
  apply Int32.toBitVec_inj.mp
  apply BitVec.eq_of_toNat_eq
  rw [nI_tn, Nat.mod_eq_of_lt x.toBitVec.isLt]
theorem E_sur (C : Nat → Int32) : ∃ κ : Nat → Nat, (∀ k, κ k < 4294967296) ∧ C = E κ := by
  refine ⟨fun k => (C k).toBitVec.toNat, fun k => (C k).toBitVec.isLt, ?_⟩
  funext k
  obtain ⟨n, hn, h⟩ := nI_sur (C k)
  show C k = nI ((C k).toBitVec.toNat)
  rw [h, nI_tn, Nat.mod_eq_of_lt hn]
/-- an int is below 0, or a natural number -/
theorem nI_cases (x : Int32) : (x < 0 ∧ ∀ n : Nat, n < 2147483648 → x ≠ nI n) ∨ ∃ n, n < 2147483648 ∧ x = nI n := by
  by_cases h : x < 0
  · refine Or.inl ⟨h, fun n hn e => ?_⟩
    rw [e] at h
    exact nI_pos hn h
  · obtain ⟨j, hj, e⟩ := nI_of h
    exact Or.inr ⟨j, hj, e⟩
theorem in_eq (x a b : Int32) : fX4_in x.toInt64 a.toInt64 b.toInt64 = some (if a ≤ x ∧ x ≤ b then nI 1 else nI 0) := by
  have hlt : ∀ u v : Int64, lg_cmp u v < 0 ↔ u < v := by
    intro u v
    unfold lg_cmp
    by_cases h1 : u > v
    · rw [if_pos h1]; constructor
      · intro h; exact absurd h (by decide)
      · intro h; exact absurd (Int64.lt_trans h h1) (Int64.lt_irrefl)
    · rw [if_neg h1]
      by_cases h2 : u = v
      · rw [if_pos h2]; constructor
        · intro h; exact absurd h (by decide)
        · intro h; rw [h2] at h; exact absurd h (Int64.lt_irrefl)
      · rw [if_neg h2]
        refine ⟨fun _ => ?_, fun _ => by decide⟩
        rcases Int64.lt_or_eq_of_le (Int64.not_lt.mp h1) with h | h
        · exact h
        · exact absurd h h2
  have hgt : ∀ u v : Int64, 0 < lg_cmp u v ↔ v < u := by
    intro u v
    unfold lg_cmp
    by_cases h1 : u > v
    · rw [if_pos h1]; exact ⟨fun _ => h1, fun _ => by decide⟩
    · rw [if_neg h1]
      refine ⟨fun h => ?_, fun h => absurd h h1⟩
      by_cases h2 : u = v
      · rw [if_pos h2] at h; exact absurd h (by decide)
      · rw [if_neg h2] at h; exact absurd h (by decide)
  have wl : ∀ u v : Int32, u.toInt64 < v.toInt64 ↔ u < v := by
    intro u v
    rw [Int64.lt_iff_toInt_lt, Int32.lt_iff_toInt_lt, Int32.toInt_toInt64, Int32.toInt_toInt64]
  unfold fX4_in
  simp only [hlt, hgt, wl]
  by_cases h1 : x < a
  · rw [if_pos h1, if_neg (fun h => absurd h1 (Int32.not_lt.mpr h.1))]; rfl
  · rw [if_neg h1]
    by_cases h2 : b < x
    · rw [if_pos h2, if_neg (fun h => absurd h2 (Int32.not_lt.mpr h.2))]; rfl
    · rw [if_neg h2, if_pos ⟨Int32.not_lt.mp h1, Int32.not_lt.mp h2⟩]; rfl
