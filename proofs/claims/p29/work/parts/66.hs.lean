/-! THE STATE OF ONE OBJECT: the present house σ, those remembered h (the last one first), those kept sl -/
def OKX (m : Nat) (κ σ : Nat → Nat) : Prop := OKS m κ σ ∧ XF σ ∧ WT σ
def PL (m : Nat) (G : Nat → Int32) (p : Nat) (τ : Nat → Nat) : Prop := ∃ κ, OKX m κ τ ∧ ∀ x, x < 256 → G (256 * p + x) = nI (κ x)
def HS (m : Nat) (σ : Nat → Nat) (h : List (Nat → Nat)) (sl : Nat → Option (Nat → Nat)) (la cn : Int32) (C G sv : Nat → Int32) : Prop :=
  h.length ≤ 14 ∧ (∃ b κ, b < 14 ∧ la = nI b ∧ cn = nI h.length ∧ C = E κ ∧ OKX m κ σ ∧ ∀ j τ, h[j]? = some τ → PL m G ((b + 14 - j) % 14) τ) ∧ ∀ s, s < 2 → (sl s = none ∧ sv s = 0) ∨ ∃ τ, sl s = some τ ∧ sv s ≠ 0 ∧ PL m G (14 + s) τ
section HSS
variable {σ τ κ : Nat → Nat} {h : List (Nat → Nat)} {sl : Nat → Option (Nat → Nat)} {m m2 i k n v p s : Nat} {la cn us : Int32} {ch C G sv T B : Nat → Int32} {y z w : Int32}
theorem OKX.mono (h : OKX m κ σ) (hm : m ≤ m2) : OKX m2 κ σ := ⟨h.1.mono hm, h.2⟩
theorem PL.mono (h : PL m G p τ) (hm : m ≤ m2) : PL m2 G p τ := by
  obtain ⟨κ, a, b⟩ := h
  exact ⟨κ, a.mono hm, b⟩
theorem HS.mono (H : HS m σ h sl la cn C G sv) (hm : m ≤ m2) : HS m2 σ h sl la cn C G sv := by
  obtain ⟨hl, ⟨b, κ, h1, h2, h3, h4, h5, h6⟩, h7⟩ := H
  refine ⟨hl, ⟨b, κ, h1, h2, h3, h4, h5.mono hm, fun j τ e => (h6 j τ e).mono hm⟩, fun s hs => ?_⟩
  rcases h7 s hs with a | ⟨τ, a1, a2, a3⟩
  · exact Or.inl a
  · exact Or.inr ⟨τ, a1, a2, a3.mono hm⟩
theorem HS.here (H : HS m σ h sl la cn C G sv) : ∃ κ, C = E κ ∧ OKX m κ σ := by
  obtain ⟨hl, ⟨b, κ, h1, h2, h3, h4, h5, h6⟩, h7⟩ := H
  exact ⟨κ, h4, h5⟩
theorem HS.ok (H : HS m σ h sl la cn C G sv) : WF σ ∧ XF σ ∧ WT σ ∧ GTd 0 σ ∧ σ 1 ≤ m := by
  obtain ⟨κ, -, h1, h2, h3⟩ := H.here
  exact ⟨h1.2.1, h2, h3, h1.2.2.1, h1.2.2.2⟩
/-- another present house over the same shelf -/
theorem HS.now (H : HS m σ h sl la cn C G sv) {κ' : Nat → Nat} (hO : OKX m κ' τ) : HS m τ h sl la cn (E κ') G sv := by
  obtain ⟨hl, ⟨b, κ, h1, h2, h3, h4, h5, h6⟩, h7⟩ := H
  exact ⟨hl, ⟨b, κ', h1, h2, h3, rfl, hO, h6⟩, h7⟩
theorem HS.push (H : HS m σ h sl la cn C G sv) : ∃ la' cn' G', fX3_remember la cn us ch C G sv T B = some (la', cn', G') ∧ HS m σ (σ :: h.take 13) sl la' cn' C G' sv := by
  obtain ⟨hl, ⟨b, κ, hb, rfl, rfl, rfl, hO, hh⟩, hS⟩ := H
  have hlen : (σ :: h.take 13).length = if 14 ≤ h.length then h.length else h.length + 1 := by
    rw [List.length_cons, List.length_take]
    split <;> omega
  refine ⟨nI ((b + 1) % 14), nI (if 14 ≤ h.length then h.length else h.length + 1), va_cpy (E κ) G 0 (256 * ((b + 1) % 14)) 256, ?_, ?_, ⟨(b + 1) % 14, κ, by omega, rfl, by rw [hlen], rfl, hO, fun j τ e => ?_⟩, fun s hs => ?_⟩
  · rw [remember_c hb]
    by_cases g : 14 ≤ h.length
    · rw [if_pos (show 14 ≤ nI h.length from (m_le (a := 14) (by omega) (by omega)).mpr g), if_pos g]
    · rw [if_neg (show ¬ 14 ≤ nI h.length from fun e => g ((m_le (a := 14) (by omega) (by omega)).mp e)), if_neg g]
  · rw [hlen]
    split <;> omega
  · cases j with
    | zero =>
      have e2 : σ = τ := Option.some.inj e
      subst e2
      refine ⟨κ, hO, fun x hx => ?_⟩
      rw [show ((b + 1) % 14 + 14 - 0) % 14 = (b + 1) % 14 by omega, cpy_in hx, Nat.zero_add]
      rfl
    | succ j =>
      have e1 : (h.take 13)[j]? = some τ := e
      rw [List.getElem?_take] at e1
      by_cases g : j < 13
      · rw [if_pos g] at e1
        obtain ⟨κ2, a1, a2⟩ := hh j τ e1
        refine ⟨κ2, a1, fun x hx => ?_⟩
        rw [show ((b + 1) % 14 + 14 - (j + 1)) % 14 = (b + 14 - j) % 14 by omega, cpy_o (by omega)]
        exact a2 x hx
      · rw [if_neg g] at e1; cases e1
  · rcases hS s hs with a | ⟨τ, a1, a2, κ2, a3, a4⟩
    · exact Or.inl a
    · refine Or.inr ⟨τ, a1, a2, κ2, a3, fun x hx => ?_⟩
      rw [cpy_o (by omega)]
      exact a4 x hx
theorem b0s {α : Type} {f : Int32 → Option α} {r : Int32} : (some r).bind f = f r := rfl
/-- the questions -/
theorem k_about (H : HS m σ h sl la cn C G sv) (v : Nat) (hy : y = nI v) (hv : v ≤ 9) : fM_call la cn us ch C G sv T B 2 y z w = some (nI (abv σ v), la, cn, C, G, sv, B) := by
  obtain ⟨κ, rfl, hO, -⟩ := H.here
  rw [dc_2, hy]
  unfold fM_tryAbout
  rw [about_c hO.1 hO.2.1 hv]
  rfl
theorem k_cat (H : HS m σ h sl la cn C G sv) (i v : Nat) (hi : i < σ 0) (hy : y = nI i) (hz : z = nI v) (hv : v ≤ 8) : fM_call la cn us ch C G sv T B 3 y z w = some (nI (σ (40 + 18 * i + v)), la, cn, C, G, sv, B) := by
  obtain ⟨κ, rfl, hO, -⟩ := H.here
  have h0 := hO.2.1.1
  rw [dc_3, hy, hz]
  unfold fM_tryCat fX3_caterpillar
  rw [has_t hO.1 hO.2.1 hi, Option.bind_some, if_neg (show ¬ nI 1 = 0 from by decide), if_neg (nI_pos (by omega)), if_pos (show nI v < 9 from (m_lt (b := 9) (by omega) (by decide)).mpr (by omega)), number_c (by omega) (by omega), hO.1.nm hi (by omega)]
  rfl
theorem k_cat_f (H : HS m σ h sl la cn C G sv) (hy : ∀ n, n < σ 0 → y ≠ nI n) : fM_call la cn us ch C G sv T B 3 y z w = some (-9999001, la, cn, C, G, sv, B) := by
  obtain ⟨κ, rfl, hO, -⟩ := H.here
  rw [dc_3]
  unfold fM_tryCat fX3_caterpillar
  rw [has_f hO.1 hO.2.1 hy]
  rfl
theorem k_lies (H : HS m σ h sl la cn C G sv) (i p : Nat) (hi : i < σ 0) (hy : y = nI i) (hz : z = nI p) (hp : p < σ (40 + 18 * i + 1)) : fM_call la cn us ch C G sv T B 4 y z w = some (nI (σ (40 + 18 * i + (9 + p))), la, cn, C, G, sv, B) := by
  obtain ⟨κ, rfl, hO, -⟩ := H.here
  have h0 := hO.2.1.1
  have l := CW_lies (hO.2.1.2.2.2.1 i hi)
  rw [dc_4, hy, hz]
  unfold fM_tryLies fX3_lies
  rw [has_t hO.1 hO.2.1 hi, Option.bind_some, if_neg (show ¬ nI 1 = 0 from by decide), if_neg (nI_pos (by omega)), show (1 : Int32) = nI 1 from rfl, number_c (by omega) (by omega), Option.bind_some, hO.1.nm hi (by omega), if_pos ((m_lt (by omega) (by omega)).mpr hp), show (9 : Int32) = nI 9 from rfl, m_add, number_c (by omega) (by omega), hO.1.r hi hp]
  rfl
theorem k_lies_o (H : HS m σ h sl la cn C G sv) (i p : Nat) (hi : i < σ 0) (hy : y = nI i) (hz : z = nI p) (hp : σ (40 + 18 * i + 1) ≤ p) (hp2 : p < 100) : fM_call la cn us ch C G sv T B 4 y z w = some (-9999001, la, cn, C, G, sv, B) := by
  obtain ⟨κ, rfl, hO, -⟩ := H.here
  have h0 := hO.2.1.1
  rw [dc_4, hy, hz]
  unfold fM_tryLies fX3_lies
  rw [has_t hO.1 hO.2.1 hi, Option.bind_some, if_neg (show ¬ nI 1 = 0 from by decide), if_neg (nI_pos (by omega)), show (1 : Int32) = nI 1 from rfl, number_c (by omega) (by omega), Option.bind_some, hO.1.nm hi (by omega), if_neg (fun e => by have := (m_lt (by omega) (by omega)).mp e; omega)]
  rfl
theorem k_lies_f (H : HS m σ h sl la cn C G sv) (hy : ∀ n, n < σ 0 → y ≠ nI n) : fM_call la cn us ch C G sv T B 4 y z w = some (-9999001, la, cn, C, G, sv, B) := by
  obtain ⟨κ, rfl, hO, -⟩ := H.here
  rw [dc_4]
  unfold fM_tryLies fX3_lies
  rw [has_f hO.1 hO.2.1 hy]
  rfl
theorem k_room0 (H : HS m σ h sl la cn C G sv) (k : Nat) (hk : k < 36) (hy : y = nI k) : fM_call la cn us ch C G sv T B 5 y 0 w = some (nI (tk σ k), la, cn, C, G, sv, B) := by
  obtain ⟨κ, rfl, hO, -⟩ := H.here
  rw [dc_5, hy]
  unfold fM_tryRoom fX3_room fX3_room_36
  rw [isRoom_c hk, Option.bind_some, if_neg (show ¬ nI 1 = 0 from by decide), if_pos rfl, takerOf_c hO.1 hk]
  rfl
theorem k_room1 (H : HS m σ h sl la cn C G sv) (k : Nat) (hk : k < 36) (hy : y = nI k) : fM_call la cn us ch C G sv T B 5 y 1 w = some (nI (σ (4 + k)), la, cn, C, G, sv, B) := by
  obtain ⟨κ, rfl, hO, -⟩ := H.here
  have h1 := hO.2.1.2.2.1 k hk
  rw [dc_5, hy]
  unfold fM_tryRoom fX3_room fX3_room_36
  rw [isRoom_c hk, Option.bind_some, if_neg (show ¬ nI 1 = 0 from by decide), if_neg (show ¬ (1 : Int32) = 0 from by decide), if_pos rfl, isShut_c hO.1 hO.2.1 hk, if_neg (show ¬ (1 : Int32) = 0 from by decide), Option.bind_some]
  by_cases g : σ (4 + k) = 0
  · rw [g]; rfl
  · rw [show σ (4 + k) = 1 by omega]; rfl
theorem k_room_f (H : HS m σ h sl la cn C G sv) (hy : ∀ n, n < 36 → y ≠ nI n) : fM_call la cn us ch C G sv T B 5 y z w = some (-9999001, la, cn, C, G, sv, B) := by
  rw [dc_5]
  unfold fM_tryRoom fX3_room
  rw [isRoom_cf hy]
  rfl
theorem k_room_w (H : HS m σ h sl la cn C G sv) (k : Nat) (hk : k < 36) (hy : y = nI k) (h0 : z ≠ 0) (h1 : z ≠ 1) : fM_call la cn us ch C G sv T B 5 y z w = some (-9999002, la, cn, C, G, sv, B) := by
  rw [dc_5, hy]
  unfold fM_tryRoom fX3_room
  rw [isRoom_c hk, Option.bind_some, if_neg (show ¬ nI 1 = 0 from by decide), if_neg h0, if_neg h1]
  rfl
theorem k_next (H : HS m σ h sl la cn C G sv) (i : Nat) (hi : i < σ 0) (hy : y = nI i) : fM_call la cn us ch C G sv T B 6 y z w = some (nI (wants σ i), la, cn, C, G, sv, B) := by
  obtain ⟨κ, rfl, hO, -⟩ := H.here
  rw [dc_6, hy]
  unfold fM_tryNext fX3_next
  rw [has_t hO.1 hO.2.1 hi, Option.bind_some, if_neg (show ¬ nI 1 = 0 from by decide), nextRoomOf_c hO.1 hO.2.1 hi]
  rfl
theorem k_next_f (H : HS m σ h sl la cn C G sv) (hy : ∀ n, n < σ 0 → y ≠ nI n) : fM_call la cn us ch C G sv T B 6 y z w = some (-9999001, la, cn, C, G, sv, B) := by
  obtain ⟨κ, rfl, hO, -⟩ := H.here
  rw [dc_6]
  unfold fM_tryNext fX3_next
  rw [has_f hO.1 hO.2.1 hy]
  rfl
theorem k_waits (H : HS m σ h sl la cn C G sv) (i : Nat) (hi : i < σ 0) (hy : y = nI i) : fM_call la cn us ch C G sv T B 7 y z w = some (nI (blk σ i), la, cn, C, G, sv, B) := by
  obtain ⟨κ, rfl, hO, -⟩ := H.here
  rw [dc_7, hy]
  unfold fM_tryWaits fX3_waitsFor
  rw [has_t hO.1 hO.2.1 hi, Option.bind_some, if_neg (show ¬ nI 1 = 0 from by decide), blockerOf_c hO.1 hO.2.1 hi]
  rfl
theorem k_waits_f (H : HS m σ h sl la cn C G sv) (hy : ∀ n, n < σ 0 → y ≠ nI n) : fM_call la cn us ch C G sv T B 7 y z w = some (-9999001, la, cn, C, G, sv, B) := by
  obtain ⟨κ, rfl, hO, -⟩ := H.here
  rw [dc_7]
  unfold fM_tryWaits fX3_waitsFor
  rw [has_f hO.1 hO.2.1 hy]
  rfl
theorem k_ring0 (H : HS m σ h sl la cn C G sv) : fM_call la cn us ch C G sv T B 8 0 z w = some (nI (rgdN σ), la, cn, C, G, sv, B) := by
  obtain ⟨κ, rfl, hO, -⟩ := H.here
  rw [dc_8]
  unfold fM_tryRing fX3_ring fX3_ring_19 fX3_ring_36
  rw [if_pos rfl, lowest_c hO.1 hO.2.1]
  rfl
/-- the size of the lowest ring, 4294967295 if there is none -/
def rsz (σ : Nat → Nat) : Nat := if rgdN σ = 4294967295 then 4294967295 else rz (rng σ (rgdN σ))
theorem k_ring1 (H : HS m σ h sl la cn C G sv) : fM_call la cn us ch C G sv T B 8 1 z w = some (nI (rsz σ), la, cn, C, G, sv, B) := by
  obtain ⟨κ, rfl, hO, -⟩ := H.here
  have h0 := hO.2.1.1
  rw [dc_8]
  unfold fM_tryRing fX3_ring fX3_ring_19 fX3_ring_36
  rw [if_neg (show ¬ (1 : Int32) = 0 from by decide), if_pos rfl, lowest_c hO.1 hO.2.1, Option.bind_some, if_neg (show ¬ (1 : Int32) = 0 from by decide)]
  unfold rsz
  rcases ring_none hO.2.1 with g | g
  · rw [g, if_pos (show nI 4294967295 = -1 from by decide), if_pos rfl]
    rfl
  · rw [if_neg (nI_no (by omega)), if_neg (by omega), ringSize_c hO.1 hO.2.1 g]
    rfl
theorem k_ring_f (H : HS m σ h sl la cn C G sv) (h0 : y ≠ 0) (h1 : y ≠ 1) : fM_call la cn us ch C G sv T B 8 y z w = some (-9999002, la, cn, C, G, sv, B) := by
  rw [dc_8]
  unfold fM_tryRing fX3_ring
  rw [if_neg h0, if_neg h1]
  rfl
theorem k_gone (H : HS m σ h sl la cn C G sv) (hm : m ≤ 1000000000) (i : Nat) (hi : i < σ 0) (hy : y = nI i) : ∃ B', fM_call la cn us ch C G sv T B 14 y z w = some (nI (untN (gon i) 200 σ 0).1, la, cn, C, G, sv, B') := by
  obtain ⟨κ, rfl, hO, -⟩ := H.here
  obtain ⟨B', e⟩ := until_h (la := la) (cn := cn) (us := us) (ch := ch) (G := G) (sv := sv) (T := T) (B := B) hO hm hi
  refine ⟨B', ?_⟩
  rw [dc_14, hy]
  unfold fM_tryGone fX3_goneIn
  rw [has_t hO.1 hO.2.1 hi, Option.bind_some, if_neg (show ¬ nI 1 = 0 from by decide), e]
  rfl
theorem k_gone_f (H : HS m σ h sl la cn C G sv) (hy : ∀ n, n < σ 0 → y ≠ nI n) : fM_call la cn us ch C G sv T B 14 y z w = some (-9999001, la, cn, C, G, sv, B) := by
  obtain ⟨κ, rfl, hO, -⟩ := H.here
  rw [dc_14]
  unfold fM_tryGone fX3_goneIn
  rw [has_f hO.1 hO.2.1 hy]
  rfl
theorem k_through (H : HS m σ h sl la cn C G sv) : ∃ B', fX3_throughIn la cn us ch C G sv T B = some (nI (untN thr 200 σ 0).1, B') := by
  obtain ⟨κ, rfl, hO, -⟩ := H.here
  obtain ⟨κ', m', a1, a2, a3, a4⟩ := ahead_h (la := la) (cn := cn) (us := us) (ch := ch) (G := G) (sv := sv) (T := T) (B := B) hO.1 hO.2.1
  refine ⟨E κ', ?_⟩
  unfold fX3_throughIn
  rw [a2]
  rfl
end HSS
