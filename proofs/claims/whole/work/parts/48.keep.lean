/-! UNDO, SAVE, RESTORE; the text's two simple calls -/
section KEP
variable {σ τ κ : Nat → Nat} {d i k w v x m m2 a b : Nat} {la cn us : Int32} {ch : Nat → Int32} {C G sv T B : Nat → Int32} {O : Nat → Int64} {rf zs ac sp ou : Int32} {mt N jT jO dy kp ik : Nat → Int32}
/-- la cn C G sv and ac N dy kp ik after a call -/
theorem c_undo (h : ST m la cn C G sv ac N dy kp ik) : ∃ e la' cn' C' O' r ac' N', fL_undo la cn us ch C G sv T B O = some (e, la', cn', C', O') ∧ fX4_undo rf zs ac sp ou mt N jT jO dy kp ik = some (r, e, ac', N') ∧ (e = 0 → O' 0 = r.toInt64) ∧ ST m la' cn' C' G sv ac' N' dy kp ik := by
  have hST := h
  obtain ⟨a, b, κ, σ, rfl, rfl, rfl, rfl, rfl, hO, hH, hS⟩ := h
  have ha := hH.1
  have hb := hH.2.1
  unfold fL_undo fX3_undo fX4_undo
  by_cases g : a = 0
  · subst g
    exact ⟨1, _, _, _, O, 0, _, _, rfl, rfl, fun z => absurd z (by decide), hST⟩
  · have g1 : ¬ nI a = 0 := fun e => g ((m_eq (b := 0) (by omega) (by omega)).mp e)
    rw [if_neg g1, if_neg g1]
    have hs := hH.2.2 0 (by omega)
    rw [show (b + 14 - 0) % 14 = b by omega] at hs
    obtain ⟨κ', σ', e1, e2, hO'⟩ := back (C := E κ) (N := E σ) hs
    have eb : nI b + 14 - 1 - (nI b + 14 - 1) / 14 * 14 = nI ((b + 13) % 14) := by
      rw [show (1 : Int32) = nI 1 from rfl, show (14 : Int32) = nI 14 from rfl, m_add, m_sub (by omega), m_div (by omega) (by omega) (by omega), m_mul, m_sub (by omega)]
      congr 1
      omega
    have ea : nI a - 1 = nI (a - 1) := m_sub (b := 1) (by omega)
    refine ⟨0, nI ((b + 13) % 14), nI (a - 1), E κ', vp_updL O 0 (nI (a - 1)).toInt64, nI (a - 1), nI (a - 1), E σ', ?_, ?_, fun _ => by simp [vp_updL], a - 1, (b + 13) % 14, κ', σ', rfl, rfl, rfl, rfl, rfl, hO', ⟨by omega, by omega, fun j hj => ?_⟩, hS⟩
    · rw [readFrom_c (by omega), Option.bind_some, e1, eb, ea]
      rfl
    · show (some (0, 0)).bind _ = _
      rw [Option.bind_some]
      show (if (0 : Int32) = 0 then (fX4_copyState 3080 220 dy (E σ) (220 * (nI a - 1)) 0).bind _ else _) = _
      rw [if_pos rfl, ea, show (220 : Int32) * nI (a - 1) = nI (220 * (a - 1)) from m_mul 220 (a - 1), show (0 : Int32) = nI 0 from rfl, copyState_E 3080 220 dy (E σ) (by omega) (by omega) (by omega) (by omega), Option.bind_some]
      rw [Nat.sub_zero] at e2
      rw [e2]
    · have := hH.2.2 (j + 1) (by omega)
      rw [show (b + 14 - (j + 1)) % 14 = ((b + 13) % 14 + 14 - j) % 14 by omega, show a - 1 - (j + 1) = a - 1 - 1 - j by omega] at this
      exact this
theorem c_save (h : ST m la cn C G sv ac N dy kp ik) (y : Int32) : ∃ e G' sv' O' r kp' ik', fL_save la cn us ch C G sv T B O y = some (e, G', sv', O') ∧ fX4_save rf zs ac sp ou mt N jT jO dy kp ik y = some (r, e, kp', ik') ∧ (e = 0 → O' 0 = r.toInt64) ∧ ST m la cn C G' sv' ac N dy kp' ik' := by
  have hST := h
  obtain ⟨a, b, κ, σ, rfl, rfl, rfl, rfl, rfl, hO, hH, hS⟩ := h
  have ha := hH.1
  have hb := hH.2.1
  unfold fL_save fX3_save fX4_save
  rw [show (1 : Int64) = (nI 1).toInt64 from by decide]
  rcases upto 2 y with ⟨s, hs, rfl⟩ | hs
  · rw [if_neg (nI_pos (by omega)), if_pos (show nI s < 2 from (m_lt (b := 2) (by omega) (by decide)).mpr hs), show (14 : Int32) = nI 14 from rfl, m_add, writeTo_c (by omega), Option.bind_some, m_gd hs (by omega), in_t (by omega) (by omega), Option.bind_some, if_neg (show ¬ nI 1 = 0 from by decide), m_cl (by omega)]
    refine ⟨0, _, _, _, nI (σ 1), va_cpy (E σ) kp 0 (220 * s) 220, upd ik s 1, rfl, ?_, fun _ => ?_, a, b, κ, σ, rfl, rfl, rfl, rfl, rfl, hO, ⟨ha, hb, fun j hj => ?_⟩, fun s2 hs2 => ?_⟩
    · show (some (0, 0)).bind _ = _
      rw [Option.bind_some]
      show (if (0 : Int32) = 0 then (fX4_copyState 220 440 (E σ) kp 0 (220 * nI s)).bind _ else _) = _
      rw [if_pos rfl, show (220 : Int32) * nI s = nI (220 * s) from m_mul 220 s, show (0 : Int32) = nI 0 from rfl, copyState_E 220 440 (E σ) kp (by omega) (by omega) (by omega) (by omega), Option.bind_some, m_gd hs (by omega), m_cl (by omega)]
      rfl
    · have := hO.1.2.2.1
      simp [vp_updL]
      show (nI (κ 2)).toInt64 = (nI (σ 1)).toInt64
      rw [this]
      rfl
    · refine (hH.2.2 j hj).congr (fun x hx => ?_) (fun x hx => rfl)
      rw [cpy_o (by omega)]
    · by_cases g : s2 = s
      · subst g
        refine ⟨by unfold upd; rw [if_pos rfl, if_pos rfl], fun _ => ⟨κ, σ, hO, fun x hx => ?_, fun x hx => ?_⟩⟩
        · rw [cpy_in hx, Nat.zero_add]; rfl
        · rw [cpy_in hx, Nat.zero_add]; rfl
      · have h1 : upd sv s 1 s2 = sv s2 := by unfold upd; rw [if_neg g]
        have h2 : upd ik s 1 s2 = ik s2 := by unfold upd; rw [if_neg g]
        rw [h1, h2]
        refine ⟨(hS s2 hs2).1, fun z => ((hS s2 hs2).2 z).congr (fun x hx => ?_) (fun x hx => ?_)⟩
        · rw [cpy_o (by omega)]
        · rw [cpy_o (by omega)]
  · rw [in_f (by omega) (fun n h2 => hs n (by omega))]
    refine ⟨3 - 2, G, sv, O, 0, kp, ik, ?_, rfl, fun z => absurd z (by decide), hST⟩
    by_cases g : y < 0
    · rw [if_pos g]; rfl
    · rw [if_neg g, if_neg (show ¬ y < 2 from lt_f (m := 2) (by omega) hs g)]; rfl
theorem c_restore (h : ST m la cn C G sv ac N dy kp ik) (y : Int32) : ∃ e cn' C' O' r ac' N', fL_restore la cn us ch C G sv T B O y = some (e, cn', C', O') ∧ fX4_restore rf zs ac sp ou mt N jT jO dy kp ik y = some (r, e, ac', N') ∧ (e = 0 → O' 0 = r.toInt64) ∧ ST m la cn' C' G sv ac' N' dy kp ik := by
  have hST := h
  obtain ⟨a, b, κ, σ, rfl, rfl, rfl, rfl, rfl, hO, hH, hS⟩ := h
  have ha := hH.1
  have hb := hH.2.1
  unfold fL_restore fX3_restore fX4_restore
  rw [show (1 : Int64) = (nI 1).toInt64 from by decide]
  rcases upto 2 y with ⟨s, hs, rfl⟩ | hs
  · rw [if_neg (nI_pos (by omega)), if_pos (show nI s < 2 from (m_lt (b := 2) (by omega) (by decide)).mpr hs), m_gd hs (by omega), m_gd hs (by omega), m_cl (by omega), in_t (by omega) (by omega), Option.bind_some, if_neg (show ¬ nI 1 = 0 from by decide), ← (hS s hs).1]
    by_cases g : sv s = 0
    · rw [if_pos g, if_pos g]
      exact ⟨2, _, _, O, 0, _, _, rfl, rfl, fun z => absurd z (by decide), hST⟩
    · rw [if_neg g, if_neg g, show (14 : Int32) = nI 14 from rfl, m_add, readFrom_c (by omega), Option.bind_some]
      obtain ⟨κ', σ', e1, e2, hO'⟩ := back (C := E κ) (N := E σ) ((hS s hs).2 g)
      rw [e1]
      refine ⟨0, nI 0, E κ', _, nI (σ' 1), nI 0, E σ', rfl, ?_, fun _ => ?_, 0, b, κ', σ', rfl, rfl, rfl, rfl, rfl, hO', ⟨by omega, hb, fun j hj => by omega⟩, hS⟩
      · show (some (0, 0)).bind _ = _
        rw [Option.bind_some]
        show (if (0 : Int32) = 0 then (fX4_copyState 440 220 kp (E σ) (220 * nI s) 0).bind _ else _) = _
        rw [if_pos rfl, show (220 : Int32) * nI s = nI (220 * s) from m_mul 220 s, show (0 : Int32) = nI 0 from rfl, copyState_E 440 220 kp (E σ) (by omega) (by omega) (by omega) (by omega), Option.bind_some, e2]
        rfl
      · have := hO'.1.2.2.1
        simp [vp_updL]
        show (nI (κ' 2)).toInt64 = (nI (σ' 1)).toInt64
        rw [this]
        rfl
  · rw [in_f (by omega) (fun n h2 => hs n (by omega))]
    refine ⟨1, _, _, O, 0, _, _, ?_, rfl, fun z => absurd z (by decide), hST⟩
    by_cases g : y < 0
    · rw [if_pos g]; rfl
    · rw [if_neg g, if_neg (show ¬ y < 2 from lt_f (m := 2) (by omega) hs g)]; rfl
/-- the two texts are the same -/
def TX (us : Int32) (ch : Nat → Int32) (zs : Int32) (mt : Nat → Int32) : Prop := ∃ (L : Nat) (t : Nat → Nat), L ≤ 120 ∧ us = nI L ∧ zs = nI L ∧ ∀ j, j < L → t j ≤ 255 ∧ ch j = nI (t j) ∧ mt j = nI (t j)
theorem c_append (h : TX us ch zs mt) (y : Int32) : ∃ e us' ch' O' r zs' mt', fL_append la cn us ch C G sv T B O y = some (e, us', ch', O') ∧ fX4_append rf zs ac sp ou mt N jT jO dy kp ik y = some (r, e, zs', mt') ∧ (e = 0 → O' 0 = r.toInt64) ∧ TX us' ch' zs' mt' := by
  have hT := h
  obtain ⟨L, t, hL, rfl, rfl, ht⟩ := h
  unfold fL_append fX3_append fX4_append
  rw [show (255 : Int64) = (nI 255).toInt64 from by decide]
  rcases upto 256 y with ⟨c, hc, rfl⟩ | hc
  · rw [if_neg (nI_pos (by omega)), if_pos (show nI c ≤ 255 from (m_le (b := 255) (by omega) (by decide)).mpr (by omega)), in_t (by omega) (by omega), Option.bind_some, if_neg (show ¬ nI 1 = 0 from by decide)]
    by_cases g : L = 120
    · subst g
      exact ⟨2, _, _, O, 0, _, _, rfl, rfl, fun z => absurd z (by decide), hT⟩
    · have e1 : fX2_isFull (nI L) ch = some 0 := by
        unfold fX2_isFull
        rw [if_pos (show nI L < 120 from (m_lt (b := 120) (by omega) (by decide)).mpr (by omega))]
      have e2 : fX2_add (nI L) ch (nI c) = some (nI (L + 1), upd ch L (nI c)) := by
        unfold fX2_add
        rw [if_neg (nI_pos (by omega)), if_neg (show ¬ 120 ≤ nI L from fun e => by have := (m_le (a := 120) (by decide) (by omega)).mp e; omega), m_gd (by omega) (by omega), m_cl (by omega), show (1 : Int32) = nI 1 from rfl, m_add]
      rw [e1, Option.bind_some, if_pos rfl, e2, if_neg (show ¬ nI L = 120 from fun e => g ((m_eq (b := 120) (by omega) (by omega)).mp e))]
      refine ⟨0, _, _, _, nI (L + 1), nI (L + 1), upd mt L (nI c), rfl, ?_, fun _ => by simp [vp_updL], L + 1, fun j => if j = L then c else t j, by omega, rfl, rfl, fun j hj => ?_⟩
      · show (some (0, 0)).bind _ = _
        rw [Option.bind_some]
        show (if (0 : Int32) = 0 then gd (nI L) 120 (some (nI L + nI 1, 0, nI L + nI 1, upd mt (nI L).toNatClampNeg (nI c))) else _) = _
        rw [if_pos rfl, m_gd (by omega) (by omega), m_cl (by omega), m_add]
      · unfold upd
        by_cases z : j = L
        · rw [if_pos z, if_pos z]
          dsimp only
          rw [if_pos z]
          exact ⟨by omega, rfl, rfl⟩
        · rw [if_neg z, if_neg z]
          dsimp only
          rw [if_neg z]
          exact ht j (by omega)
  · rw [in_f (by omega) (fun n h2 => hc n (by omega))]
    refine ⟨1, _, _, O, 0, _, _, ?_, rfl, fun z => absurd z (by decide), hT⟩
    by_cases g : y < 0
    · rw [if_pos g]; rfl
    · rw [if_neg g, if_neg (show ¬ y ≤ 255 from fun e => by
        rcases nI_cases y with ⟨hy, -⟩ | ⟨n, hn, rfl⟩
        · exact g hy
        · exact hc n (by have := (m_le (b := 255) hn (by decide)).mp e; omega) rfl)]
      rfl
theorem c_clear (h : TX us ch zs mt) : ∃ r us', fX3_clearText la cn us ch C G sv T B = some (r, us') ∧ fX4_clearText rf zs ac sp ou mt N jT jO dy kp ik = some (r, 0, 0) ∧ TX us' ch 0 mt := by
  obtain ⟨L, t, hL, rfl, rfl, ht⟩ := h
  exact ⟨nI L, 0, rfl, rfl, 0, t, by omega, rfl, rfl, fun j hj => by omega⟩
end KEP
