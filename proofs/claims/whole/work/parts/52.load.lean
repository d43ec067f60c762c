section LOAD
variable {t : Nat → Nat} {L q p c n lo hi o k m a b : Nat} {ch mt : Nat → Int32} {σ κ : Nat → Nat} {la cn us zs : Int32} {C G sv T B : Nat → Int32} {Q : Nat → Int64} {rf ac ou sp : Int32} {N jT jO O dy kp ik : Nat → Int32}
theorem st_o (hL : L ≤ 120) (ht : ∀ j, j < L → t j ≤ 255 ∧ ch j = nI (t j) ∧ mt j = nI (t j)) (hp : p < L) (h1 : t p ≠ 104) (h2 : t p ≠ 112) (h3 : t p ≠ 114) (h4 : t p ≠ 116) (h5 : t p ≠ 120) : STEP L t ch mt la cn G sv T B rf ac N O dy kp ik p o σ := by
  have tp := ht p hp
  have e : ∀ c : Nat, c < 256 → t p ≠ c → ¬ nI (t p) = nI c := fun c hc h z => h ((m_eq (by omega) (by omega)).mp z)
  refine Or.inl ⟨p, by omega, ?_, fun f s l hs hl hl5 => ?_⟩
  · unfold fX4_readCommand
    rw [m_gd (by omega) (by omega), m_cl (by omega), tp.2.2, if_neg (show ¬ nI (t p) = 104 from e 104 (by omega) h1), if_neg (show ¬ nI (t p) = 112 from e 112 (by omega) h2), if_neg (show ¬ nI (t p) = 114 from e 114 (by omega) h3), if_neg (show ¬ nI (t p) = 116 from e 116 (by omega) h4), if_neg (show ¬ nI (t p) = 120 from e 120 (by omega) h5), s1p, show (1 : Int32) = nI 1 from rfl, m_sub (by omega), Nat.add_sub_cancel]
  · rw [ff_bd hL ht hs hl hl5 (by omega), if_pos hp, if_pos]
    unfold shp
    rw [if_neg h1, if_neg h2, if_neg h3, if_neg h4, if_neg h5]
theorem st_all (hL : L ≤ 120) (ht : ∀ j, j < L → t j ≤ 255 ∧ ch j = nI (t j) ∧ mt j = nI (t j)) (hp : p < L) (hW : WF σ) : STEP L t ch mt la cn G sv T B rf ac N O dy kp ik p o σ := by
  by_cases h1 : t p = 104
  · exact st_h hL ht hp hW h1
  by_cases h2 : t p = 112
  · exact st_p hL ht hp hW h2
  by_cases h3 : t p = 114
  · exact st_r hL ht hp hW h3
  by_cases h4 : t p = 116
  · exact st_t hL ht hp hW h4
  by_cases h5 : t p = 120
  · exact st_x hL ht hp hW h5
  exact st_o hL ht hp h1 h2 h3 h4 h5
theorem ld_skips (hL : L ≤ 120) (ht : ∀ j, j < L → t j ≤ 255 ∧ ch j = nI (t j) ∧ mt j = nI (t j)) (f : Nat) {v : Int32} {C : Nat → Int32} : ∀ k q, (∀ j, j < k → ∃ s, fq L t s (q + j) = true ∧ 48 ≤ t (q + j) ∧ t (q + j) ≤ 57) → fX3_load_40 la (nI L) ch G T B (f + k) v (nI q) cn C sv = fX3_load_40 la (nI L) ch G T B f v (nI (q + k)) cn C sv := by
  intro k
  induction k with
  | zero => intro q _; rfl
  | succ k ih =>
    intro q h
    obtain ⟨s, h1, h2⟩ := h 0 (by omega)
    have := ld_skip (la := la) (cn := cn) (G := G) (sv := sv) (T := T) (B := B) (v := v) (C := C) hL ht h1 h2 (f + k)
    refine this.trans ?_
    have := ih (q + 1) (fun j hj => by
      have := h (j + 1) (by omega)
      rw [show q + (j + 1) = q + 1 + j by omega] at this
      exact this)
    rw [show q + 1 + k = q + (k + 1) by omega] at this
    exact this
theorem text_P (hL : L ≤ 120) (ht : ∀ j, j < L → t j ≤ 255 ∧ ch j = nI (t j) ∧ mt j = nI (t j)) : ∀ n p o σ, n = L - p → 1 ≤ p → p ≤ L → WF σ → ∃ r sp' o' σ', WF σ' ∧
    (∀ f, n < f → fX4_readText_39 rf (nI L) ac mt N O dy kp ik f (nI p) (nI o) (E σ) = some (r, sp', nI o', E σ')) ∧
    (∀ f s l, n + 6 < f → s < 6 → x_shl.getD s 0 = l → l ≤ 5 → fX2_firstFault_19 (nI L) ch f s (nI l) (nI p) = some r) ∧
    (r = -1 → o ≤ o' ∧ ∀ κ m, OKS m κ σ → ∃ κ', OKS (m + 60 * n) κ' σ' ∧ ∀ f v, n < f → fX3_load_40 la (nI L) ch G T B f (nI v) (nI p) cn (E κ) sv = some (.inr (nI (v + (o' - o)), cn, E κ', sv))) := by
  intro n
  induction n using Nat.strongRecOn with
  | ind n ih =>
    intro p o σ hn h1 hp hW
    by_cases g : p = L
    · subst g
      refine ⟨-1, nI p, o, σ, hW, fun f hf => ?_, fun f s l hf hs hl hl5 => ?_, fun _ => ⟨Nat.le_refl _, fun κ m hO => ⟨κ, hO.mono (by omega), fun f v hf => ?_⟩⟩⟩
      · obtain ⟨f, rfl⟩ : ∃ g, f = g + 1 := ⟨f - 1, by omega⟩
        rw [fX4_readText_39, if_pos (show nI p ≤ nI p from (m_le (by omega) (by omega)).mpr (Nat.le_refl _))]
      · obtain ⟨f, rfl⟩ : ∃ g, f = g + 1 := ⟨f - 1, by omega⟩
        rw [ff_bd hL ht hs hl hl5 (by omega), if_neg (by omega)]
      · obtain ⟨f, rfl⟩ : ∃ g, f = g + 1 := ⟨f - 1, by omega⟩
        rw [ld_end f hL, Nat.sub_self, Nat.add_zero]
    · have hpL : p < L := by omega
      rcases st_all (la := la) (cn := cn) (G := G) (sv := sv) (T := T) (B := B) (rf := rf) (ac := ac) (N := N) (O := O) (dy := dy) (kp := kp) (ik := ik) (o := o) hL ht hpL hW with ⟨q, hq, eR, eF⟩ | ⟨k, s1, l1, σ1, x, hk, hk2, hs1, hl1, hl15, hx, hW1, eR, eF, h57, eD, eC⟩
      · refine ⟨nI q, nI q, o, σ, hW, fun f hf => ?_, fun f s l hf hs hl hl5 => ?_, fun e => absurd e (nI_no (by omega))⟩
        · obtain ⟨f, rfl⟩ : ∃ g, f = g + 1 := ⟨f - 1, by omega⟩
          rw [fX4_readText_39, if_neg (show ¬ nI L ≤ nI p from fun e => by have := (m_le (by omega) (by omega)).mp e; omega), eR, Option.bind_some]
          dsimp only
          rw [if_pos rfl]
        · obtain ⟨f, rfl⟩ : ∃ g, f = g + 1 + 1 + 1 + 1 + 1 + 1 := ⟨f - 6, by omega⟩
          exact eF f s l hs hl hl5
      · obtain ⟨r, sp', o', σ', hW', i1, i2, i3⟩ := ih (n - (1 + k)) (by omega) (p + 1 + k) (o + x) σ1 (by omega) (by omega) hk2 hW1
        refine ⟨r, sp', o', σ', hW', fun f hf => ?_, fun f s l hf hs hl hl5 => ?_, fun e => ?_⟩
        · obtain ⟨f, rfl⟩ : ∃ g, f = g + 1 := ⟨f - 1, by omega⟩
          rw [fX4_readText_39, if_neg (show ¬ nI L ≤ nI p from fun e => by have := (m_le (by omega) (by omega)).mp e; omega), eR, Option.bind_some]
          dsimp only
          rw [if_neg (show ¬ (1 : Int32) = 0 from by decide)]
          exact i1 f (by omega)
        · obtain ⟨f, rfl⟩ : ∃ g, f = g + 1 + k := ⟨f - (1 + k), by omega⟩
          rw [eF f s l hs hl hl5]
          exact i2 f s1 l1 (by omega) hs1 hl1 hl15
        · obtain ⟨j1, j2⟩ := i3 e
          refine ⟨by omega, fun κ m hO => ?_⟩
          obtain ⟨κ1, hO1, eK⟩ := eC κ m hO
          obtain ⟨κ', hO', e'⟩ := j2 κ1 (m + 60) hO1
          refine ⟨κ', hO'.mono (by omega), fun f v hf => ?_⟩
          obtain ⟨f, rfl⟩ : ∃ g, f = g + k + 1 := ⟨f - (1 + k), by omega⟩
          rw [ld_cmd hL ht hpL h57 (f + k) eK, ld_skips hL ht f k (p + 1) eD, e' f _ (by omega)]
          congr 3
          have hb : bN (!(x == 0)) = x := by
            have : x = 0 ∨ x = 1 := by omega
            rcases this with rfl | rfl <;> rfl
          rw [hb]
          congr 1
          omega
-- the empty house
def z40 (κ : Nat → Nat) : Nat → Nat := fun x => if x < 40 then 0 else if x < 256 then 4294967295 else κ x
def z220 (τ : Nat → Nat) : Nat → Nat := fun x => if x < 220 then 0 else τ x
theorem zz_OKS {κ τ : Nat → Nat} : OKS 0 (z40 κ) (z220 τ) := by
  have a0 : z220 τ 0 = 0 := rfl
  have zt : ∀ x, x < 220 → z220 τ x = 0 := fun x hx => if_pos hx
  refine ⟨⟨rfl, rfl, rfl, rfl, fun k hk => ?_, fun k hk => ?_, fun i w hi _ => ?_, fun i p hi _ => ?_, fun i hi hi2 => ?_⟩, ⟨by omega, by rw [zt 2 (by omega)]; omega, fun k hk => by rw [zt _ (by omega)]; omega, fun i hi => by omega, fun i j p q hi => by omega⟩, fun i hi => by omega, by rw [zt 1 (by omega)]; omega⟩
  · rw [zt _ (by omega)]
    unfold z40
    rw [if_pos (by omega)]
  · unfold z40 tk
    rw [if_neg (by omega), if_pos (by omega), a0]
    rfl
  · omega
  · omega
  · unfold z40
    rw [if_neg (by omega), if_pos (by omega)]
def zC (C : Nat → Int32) (j : Nat) : Nat → Int32 := fun x => if x < j then (if x < 40 then 0 else -1) else C x
theorem emp2 : ∀ n j, j ≤ 256 → 256 - j < n → fX0_empty_2 n (nI j) (zC C j) = some (zC C 256) := by
  intro n
  induction n with
  | zero => intro j _ h; omega
  | succ n ih =>
    intro j hj hn
    rw [fX0_empty_2]
    have st : ∀ z : Int32, (if j < 40 then 0 else -1) = z → upd (zC C j) j z = zC C (j + 1) := by
      intro z hz
      funext x
      unfold upd zC
      by_cases g : x = j
      · rw [if_pos g, if_pos (by omega), g, hz]
      · rw [if_neg g]
        by_cases g2 : x < j
        · rw [if_pos g2, if_pos (show x < j + 1 by omega)]
        · rw [if_neg g2, if_neg (show ¬ x < j + 1 by omega)]
    by_cases h1 : 256 ≤ j
    · rw [if_pos (show 256 ≤ nI j from (m_le (a := 256) (by omega) (by omega)).mpr h1), show j = 256 by omega]
    · rw [if_neg (show ¬ 256 ≤ nI j from fun e => h1 ((m_le (a := 256) (by omega) (by omega)).mp e))]
      unfold fX0_empty_25
      rw [m_gd (by omega) (by omega), m_gd (by omega) (by omega), m_cl (by omega), s1p]
      by_cases h2 : 40 ≤ j
      · rw [if_pos (show 40 ≤ nI j from (m_le (a := 40) (by omega) (by omega)).mpr h2), st (-1) (if_neg (by omega))]
        exact ih (j + 1) (by omega) (by omega)
      · rw [if_neg (show ¬ 40 ≤ nI j from fun e => h2 ((m_le (a := 40) (by omega) (by omega)).mp e)), st 0 (if_pos (by omega))]
        exact ih (j + 1) (by omega) (by omega)
theorem empty_c {κ : Nat → Nat} : fX0_empty (E κ) = some (E (z40 κ)) := by
  have e0 : zC (E κ) 0 = E κ := by
    funext x
    unfold zC
    rw [if_neg (by omega)]
  have e1 : zC (E κ) 256 = E (z40 κ) := by
    funext x
    unfold zC E z40
    by_cases g : x < 40
    · rw [if_pos (by omega), if_pos g, if_pos g]; rfl
    · rw [if_neg g, if_neg g]
      by_cases g2 : x < 256
      · rw [if_pos g2, if_pos g2]; decide
      · rw [if_neg g2, if_neg g2]
  have := emp2 (C := E κ) 5000 0 (by omega) (by omega)
  rw [e0, e1] at this
  exact this
theorem clear_z {τ : Nat → Nat} : fX4_clear (E τ) = some (E (z220 τ)) := by
  rw [clear_E]
  congr 1
  funext x
  unfold clrF E z220
  split <;> rfl
theorem reads (hT : TX us ch zs mt) (jT : Nat → Int32) (κ : Nat → Nat) : ∃ r sp' ou' T', fX2_firstFault us ch = some r ∧ fX4_readText rf zs ac sp ou mt N jT O dy kp ik = some (r, sp', ou', T') ∧ (r = -1 → ∃ o' σ' κ', ou' = nI o' ∧ T' = E σ' ∧ OKS 7200 κ' σ' ∧ fX3_load_40 la us ch G T B 5000 0 1 cn (E (z40 κ)) sv = some (.inr (nI o', cn, E κ', sv))) := by
  obtain ⟨L, t, hL, rfl, rfl, ht⟩ := hT
  obtain ⟨τ, -, rfl⟩ := E_sur jT
  unfold fX2_firstFault fX4_readText
  rw [clear_z, Option.bind_some]
  by_cases g : L = 0
  · subst g
    refine ⟨0, 0, 0, E (z220 τ), rfl, ?_, fun e => absurd e (show ¬ (0 : Int32) = -1 from by decide)⟩
    rw [if_pos (show nI 0 = 0 from rfl)]
  · have t0 := ht 0 (by omega)
    have ea : fX2_at (nI L) ch 0 = some (nI (t 0)) := at_c hL ht (q := 0) (by omega)
    rw [ea, Option.bind_some, if_neg (show ¬ nI L = 0 from fun e => g ((m_eq (b := 0) (by omega) (by omega)).mp e)), t0.2.2]
    by_cases g2 : t 0 = 76
    · rw [g2, if_pos (show nI 76 = 76 from rfl), if_pos (show nI 76 = 76 from rfl)]
      obtain ⟨r, sp', o', σ', hW', i1, i2, i3⟩ := text_P (la := la) (cn := cn) (G := G) (sv := sv) (T := T) (B := B) (rf := rf) (ac := ac) (N := N) (O := O) (dy := dy) (kp := kp) (ik := ik) hL ht (L - 1) 1 0 (z220 τ) rfl (by omega) (by omega) (zz_OKS (κ := κ)).2.1
      refine ⟨r, sp', nI o', E σ', i2 5000 0 0 (by omega) (by omega) rfl (by omega), i1 5000 (by omega), fun e => ?_⟩
      obtain ⟨-, j2⟩ := i3 e
      obtain ⟨κ', hO', e'⟩ := j2 (z40 κ) 0 zz_OKS
      refine ⟨o', σ', κ', rfl, rfl, hO'.mono (by omega), ?_⟩
      have := e' 5000 0 (by omega)
      rw [Nat.zero_add, Nat.sub_zero] at this
      exact this
    · have g3 : ¬ nI (t 0) = 76 := fun e => g2 ((m_eq (b := 76) (by omega) (by omega)).mp e)
      rw [if_neg g3, if_neg g3]
      exact ⟨0, 0, 0, E (z220 τ), rfl, rfl, fun e => absurd e (show ¬ (0 : Int32) = -1 from by decide)⟩
theorem c_error (hT : TX us ch zs mt) : ∃ r sp' ou' T', fX3_errorPosition la cn us ch C G sv T B = some r ∧ fX4_errorPosition rf zs ac sp ou mt N jT jO dy kp ik = some (r, 0, sp', ou', T') := by
  obtain ⟨r, sp', ou', T', e1, e2, -⟩ := reads (la := la) (cn := cn) (G := G) (sv := sv) (T := T) (B := B) (rf := 0) (ac := ac) (sp := sp) (ou := ou) (N := N) (O := jO) (dy := dy) (kp := kp) (ik := ik) hT jT (fun _ => 0)
  refine ⟨r, sp', ou', T', ?_, ?_⟩
  · unfold fX3_errorPosition
    rw [e1]; rfl
  · unfold fX4_errorPosition
    rw [e2]; rfl
theorem slots2 : fX3_emptySlots la cn us ch C G sv T B = some (upd (upd sv 0 0) 1 0) := by
  have key : ∀ f, fX3_emptySlots_2 (f + 1 + 1 + 1) 0 sv = some (upd (upd sv 0 0) 1 0) := by
    intro f
    rw [fX3_emptySlots_2, if_neg (by decide), show (0 : Int32) = nI 0 from rfl, m_gd (by omega) (by omega), fX3_emptySlots_2, if_neg (by decide), show nI 0 + 1 = nI 1 from rfl, m_gd (by omega) (by omega), fX3_emptySlots_2, if_pos (by decide)]
    rfl
  exact key 4997
theorem c_load (h : ST m la cn C G sv ac N dy kp ik) (hT : TX us ch zs mt) : ∃ e cn' C' sv' O' r ac' sp' ou' N' T' ik', fL_load la cn us ch C G sv T B Q = some (e, cn', C', sv', O') ∧ fX4_load rf zs ac sp ou mt N jT jO dy kp ik = some (r, e, ac', sp', ou', N', T', ik') ∧ (e = 0 → O' 0 = r.toInt64) ∧ ST (m + 7200) la cn' C' G sv' ac' N' dy kp ik' := by
  have hST := h
  obtain ⟨a, b, κ, σ, rfl, rfl, rfl, rfl, rfl, hO, hH, hS⟩ := h
  obtain ⟨r, sp', ou', T', e1, e2, e3⟩ := reads (la := nI b) (cn := 0) (G := G) (sv := upd (upd sv 0 0) 1 0) (T := T) (B := B) (rf := rf) (ac := nI a) (sp := sp) (ou := ou) (N := E σ) (O := jO) (dy := dy) (kp := kp) (ik := ik) hT jT κ
  unfold fL_load fX3_load fX4_load
  rw [e1, e2, Option.bind_some, Option.bind_some]
  dsimp only
  by_cases g : r = -1
  · obtain ⟨o', σ', κ', rfl, rfl, hO', el⟩ := e3 g
    rw [if_pos g, if_pos g, empty_c, Option.bind_some]
    have eN : va_cpy (E σ') (E σ) 0 0 220 = E (fun x => if x < 220 then σ' x else σ x) := by
      funext x
      unfold va_cpy E
      dsimp only
      by_cases z : x < 220
      · rw [if_pos (by omega), if_pos z, Nat.zero_add, Nat.sub_zero]
      · rw [if_neg (by omega), if_neg z]
    refine ⟨0, 0, E κ', upd (upd sv 0 0) 1 0, vp_updL Q 0 (nI o').toInt64, nI o', 0, sp', nI o', E (fun x => if x < 220 then σ' x else σ x), E σ', upd (upd ik 0 0) 1 0, ?_, ?_, fun _ => by simp [vp_updL], 0, b, κ', (fun x => if x < 220 then σ' x else σ x), rfl, rfl, rfl, rfl, rfl, ?_, ⟨by omega, hH.2.1, fun j hj => by omega⟩, fun s hs => ?_⟩
    · show (((fX3_emptySlots (nI b) 0 us ch (E (z40 κ)) G sv T B).bind fun sv_19 => fX3_load_40 (nI b) us ch G T B 5000 0 1 0 (E (z40 κ)) sv_19)).bind _ = _
      rw [slots2, Option.bind_some, el]
      rfl
    · show (some (0, 0)).bind _ = _
      rw [Option.bind_some]
      show (if (0 : Int32) = 0 then (fX4_copyState 220 220 (E σ') (E σ) (nI 0) (nI 0)).bind _ else _) = _
      rw [if_pos rfl, copyState_E 220 220 (E σ') (E σ) (by omega) (by omega) (by omega) (by omega), Option.bind_some, eN]
    · exact (hO'.mono (by omega)).congr (fun x hx => rfl) (fun x hx => if_pos hx)
    · have hs2 : s = 0 ∨ s = 1 := by omega
      have z1 : upd (upd sv 0 0) 1 0 s = 0 := by rcases hs2 with rfl | rfl <;> rfl
      have z2 : upd (upd ik 0 0) 1 0 s = 0 := by rcases hs2 with rfl | rfl <;> rfl
      rw [z1, z2]
      exact ⟨rfl, fun z => absurd rfl z⟩
  · rw [if_neg g, if_neg g]
    exact ⟨1, _, _, _, Q, 0, _, _, _, _, _, _, rfl, rfl, fun z => absurd z (by decide), hST.mono (by omega)⟩
end LOAD
