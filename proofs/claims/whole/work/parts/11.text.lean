-- X2_size
noncomputable def fX2_size (us : Int32) (ch : Nat → Int32) : Option (Int32) := some us
-- X2_isFull
noncomputable def fX2_isFull (us : Int32) (ch : Nat → Int32) : Option (Int32) := (if us < 120 then some 0 else some 1)
-- X2_empty
noncomputable def fX2_empty (us : Int32) (ch : Nat → Int32) : Option (Int32) := some 0
-- X2_add
noncomputable def fX2_add (us : Int32) (ch : Nat → Int32) (p0 : Int32) : Option (Int32 × (Nat → Int32)) := (if us < 0 then some (us, ch) else (if 120 ≤ us then some (us, ch) else gd us 120 (some ((us + 1), (upd ch (us.toNatClampNeg) p0)))))
-- X2_at
noncomputable def fX2_at (us : Int32) (ch : Nat → Int32) (p0 : Int32) : Option (Int32) := (if p0 < 0 then some (-1) else (if us ≤ p0 then some (-1) else (if 120 ≤ p0 then some (-1) else gd p0 120 (some (ch p0.toNatClampNeg)))))
-- X2_isDigit
noncomputable def fX2_isDigit (p0 : Int32) (p1 : Int32) (p2 : Int32) : Option (Int32) := (if p0 < p1 then some 0 else (if p2 < p0 then some 0 else some 1))
-- X2_isDigitAt
noncomputable def fX2_isDigitAt (us : Int32) (ch : Nat → Int32) (p0 : Int32) : Option (Int32) := ((fX2_at us ch p0).bind fun r_2 => ((fX2_isDigit r_2 48 57).bind fun r_4 => gz (isz r_4) (some r_4)))
-- X2_digit
noncomputable def fX2_digit (us : Int32) (ch : Nat → Int32) (p0 : Int32) : Option (Int32) := ((fX2_at us ch p0).bind fun r_2 => some (r_2 - 48))
-- X2_twoDigits
noncomputable def fX2_twoDigits (us : Int32) (ch : Nat → Int32) (p0 : Int32) : Option (Int32) := ((fX2_digit us ch p0).bind fun r_2 => ((fX2_digit us ch (p0 + 1)).bind fun r_4 => some ((10 * r_2) + r_4)))
-- X2_fits
noncomputable def fX2_fits_85 (z0 : Int32) (z1 : Int32) (z2 : Int32) : Option (Int32) := ((fX2_isDigit z2 z1 z0).bind fun r_2 => gz (isz r_2) (some r_2))
noncomputable def fX2_fits_134 (z0 : Int32) (z1 : Int32) (z2 : Int32) : Option (Int32) := ((fX2_isDigit z2 z1 z0).bind fun r_5 => gz (isz r_5) (some r_5))
noncomputable def fX2_fits_121 (p1 : Int32) (z0 : Int32) (z1 : Int32) : Option (Int32) := (if p1 = 54 then fX2_fits_134 48 z0 z1 else fX2_fits_134 57 z0 z1)
noncomputable def fX2_fits (p0 : Int32) (p1 : Int32) (p2 : Int32) : Option (Int32) := (if p0 = 82 then ((fX2_isDigit p2 48 51).bind fun r_10 => gz (isz r_10) (some r_10)) else (if p0 = 84 then ((fX2_isDigit p2 48 54).bind fun r_14 => gz (isz r_14) (some r_14)) else (if p0 = 108 then ((fX2_isDigit p2 49 57).bind fun r_18 => gz (isz r_18) (some r_18)) else (if p0 = 114 then (if p1 = 51 then fX2_fits_85 53 48 p2 else fX2_fits_85 57 48 p2) else (if p0 = 116 then (if p1 = 48 then fX2_fits_121 p1 49 p2 else fX2_fits_121 p1 48 p2) else (if p0 = 119 then ((fX2_isDigit p2 48 50).bind fun r_26 => gz (isz r_26) (some r_26)) else ((fX2_isDigit p2 48 57).bind fun r_29 => gz (isz r_29) (some r_29))))))))
-- X2_firstFault
noncomputable def fX2_firstFault_86 (k19 : Nat → Int32 → Int32 → Option (Int32)) (v1 : Nat) (v2 : Int32) (v3 : Int32) : Option (Int32) := k19 v1 v2 (v3 + 1)
noncomputable def fX2_firstFault_19 (us : Int32) (ch : Nat → Int32) : Nat → Nat → Int32 → Int32 → Option (Int32)
  | 0, _, _, _ => none
  | n + 1, v1, v2, v3 => (if us ≤ v3 then gz (decide (v1 < 6)) ((if (sLen v1) ≤ v2 then some (-1) else some us)) else gz (decide (v1 < 6)) ((if (sLen v1) ≤ v2 then ((fX2_at us ch v3).bind fun r_7 => gz (decide ((fX2_shapeOf r_7) < 6)) ((if (sEm (fX2_shapeOf r_7)) = 0 then fX2_firstFault_86 (fX2_firstFault_19 us ch n) (fX2_shapeOf r_7) 0 v3 else some v3))) else gz (decide (v1 < 6)) (gd v2 (x_shl.getD v1 0) (((fX2_at us ch (v3 - 1)).bind fun r_13 => ((fX2_at us ch v3).bind fun r_15 => ((fX2_fits (sCh v1 v2) r_13 r_15).bind fun r_17 => (if r_17 = 0 then some v3 else fX2_firstFault_86 (fX2_firstFault_19 us ch n) v1 (v2 + 1) v3)))))))))
noncomputable def fX2_firstFault (us : Int32) (ch : Nat → Int32) : Option (Int32) := ((fX2_at us ch 0).bind fun r_20 => (if r_20 = 76 then fX2_firstFault_19 us ch 5000 0 0 1 else some 0))
abbrev rmX2_size : Room := ({ frames := 1, cells := 0, slots := 0, locals := 0 })
set_option maxHeartbeats 4000000 in
set_option maxRecDepth 100000 in
theorem kX2_size (l : Launch) (D : va_G) (cI cB cL : ClassId) (t0 : Nat) (t1 : Nat) (sz : Nat) (us : Int32) (ch : Nat → Int32) (w : Int32) (hf : fX2_size us ch = some w) : Met l yX2_size wsX2_size rmX2_size (mPc D (tyK cI cB cL) [.ref t0] sz [(t0, .inr (2, [.ref t1, .int us])), (t1, .inl (cI, 120, .inl ch))]) (mQi D w [(t0, .inr (2, [.ref t1, .int us])), (t1, .inl (cI, 120, .inl ch))] (va_A [(t0, .inr (2, [.ref t1, .int us])), (t1, .inl (cI, 120, .inl ch))] sz)) 0 0 (va_A [(t0, .inr (2, [.ref t1, .int us])), (t1, .inl (cI, 120, .inl ch))] sz) := by
  refine m_of (Qf := mQi D w [(t0, .inr (2, [.ref t1, .int us])), (t1, .inl (cI, 120, .inl ch))]) (cc := cX2_size) (maxL := 1) (ret := (some .int)) (by decide) rfl (Nat.le_of_ble_eq_true rfl) ?_
  intro p e s m args below meth c A ls hsz hx hb hr hml hown hts hlocks hP hK hD hS hA hE hin hl Q hQ
  subst hsz
  have hl : lv_has ls 1 [(0, .ref t0)] := hl
  have hown : s.vm.findClass RX2 = some m.cls := hown
  have iX2 : ∀ w ∈ u_ws RX2 TX2 2, w ∈ wsX2_size := by decide +kernel
  unfold fX2_size at hf
  refine lv_aload_n hx hb dX2_size_0 rfl (lv_at hl 0 rfl) ?_
  refine va_get (D := D) (ci := 2) (v := .int us) (C := RX2) (T := TX2) (N := 2) hx hb hts iX2 hown hK hP 0 rfl rfl 1 (by decide) (hts (.fieldLink RX2 15 "LongCaterpillars$Text" "used" "I") (List.mem_of_getElem? (i := 1) rfl)) (fun _ h9 => h9) rfl dX2_size_1 ?_
  cases hf
  exact rt_i hQ hx hb hr hlocks hP hD hS dX2_size_4
abbrev rmX2_isFull : Room := ({ frames := 1, cells := 0, slots := 0, locals := 0 })
set_option maxHeartbeats 4000000 in
set_option maxRecDepth 100000 in
theorem kX2_isFull (l : Launch) (D : va_G) (cI cB cL : ClassId) (t0 : Nat) (t1 : Nat) (sz : Nat) (us : Int32) (ch : Nat → Int32) (w : Int32) (hf : fX2_isFull us ch = some w) : Met l yX2_isFull wsX2_isFull rmX2_isFull (mPc D (tyK cI cB cL) [.ref t0] sz [(t0, .inr (2, [.ref t1, .int us])), (t1, .inl (cI, 120, .inl ch))]) (mQi D w [(t0, .inr (2, [.ref t1, .int us])), (t1, .inl (cI, 120, .inl ch))] (va_A [(t0, .inr (2, [.ref t1, .int us])), (t1, .inl (cI, 120, .inl ch))] sz)) 0 0 (va_A [(t0, .inr (2, [.ref t1, .int us])), (t1, .inl (cI, 120, .inl ch))] sz) := by
  refine m_of (Qf := mQi D w [(t0, .inr (2, [.ref t1, .int us])), (t1, .inl (cI, 120, .inl ch))]) (cc := cX2_isFull) (maxL := 1) (ret := (some .boolean)) (by decide) rfl (Nat.le_of_ble_eq_true rfl) ?_
  intro p e s m args below meth c A ls hsz hx hb hr hml hown hts hlocks hP hK hD hS hA hE hin hl Q hQ
  subst hsz
  have hl : lv_has ls 1 [(0, .ref t0)] := hl
  have hown : s.vm.findClass RX2 = some m.cls := hown
  have iX2 : ∀ w ∈ u_ws RX2 TX2 2, w ∈ wsX2_isFull := by decide +kernel
  unfold fX2_isFull at hf
  refine lv_aload_n hx hb dX2_isFull_0 rfl (lv_at hl 0 rfl) ?_
  refine va_get (D := D) (ci := 2) (v := .int us) (C := RX2) (T := TX2) (N := 2) hx hb hts iX2 hown hK hP 0 rfl rfl 1 (by decide) (hts (.fieldLink RX2 15 "LongCaterpillars$Text" "used" "I") (List.mem_of_getElem? (i := 1) rfl)) (fun _ h9 => h9) rfl dX2_isFull_1 ?_
  refine lv_bipush (v := 120) hx hb dX2_isFull_4 (by decide) ?_
  refine lv_icmp_lt (tgt := 13) hx hb dX2_isFull_6 (by decide) (fun c_1 => ?_) (fun c_1 => ?_)
  · have hf := br_pos c_1 hf
    refine lv_iconst (v := 0) hx hb dX2_isFull_13 (by decide) ?_
    cases hf
    exact rt_z hQ hx hb hr rfl hlocks hP hD hS dX2_isFull_14
  · have hf := br_neg c_1 hf
    refine lv_iconst (v := 1) hx hb dX2_isFull_9 (by decide) ?_
    refine lv_goto (tgt := 14) hx hb dX2_isFull_10 (by decide) ?_
    cases hf
    exact rt_z hQ hx hb hr rfl hlocks hP hD hS dX2_isFull_14
abbrev rmX2_empty : Room := ({ frames := 1, cells := 0, slots := 0, locals := 0 })
set_option maxHeartbeats 4000000 in
set_option maxRecDepth 100000 in
theorem kX2_empty (l : Launch) (D : va_G) (cI cB cL : ClassId) (t0 : Nat) (t1 : Nat) (sz : Nat) (us : Int32) (ch : Nat → Int32) (us' : Int32) (hf : fX2_empty us ch = some us') : Met l yX2_empty wsX2_empty rmX2_empty (mPc D (tyK cI cB cL) [.ref t0] sz [(t0, .inr (2, [.ref t1, .int us])), (t1, .inl (cI, 120, .inl ch))]) (mQv D [(t0, .inr (2, [.ref t1, .int us'])), (t1, .inl (cI, 120, .inl ch))] (va_A [(t0, .inr (2, [.ref t1, .int us])), (t1, .inl (cI, 120, .inl ch))] sz)) 0 0 (va_A [(t0, .inr (2, [.ref t1, .int us])), (t1, .inl (cI, 120, .inl ch))] sz) := by
  refine m_of (Qf := mQv D [(t0, .inr (2, [.ref t1, .int us'])), (t1, .inl (cI, 120, .inl ch))]) (cc := cX2_empty) (maxL := 1) (ret := none) (by decide) rfl (Nat.le_of_ble_eq_true rfl) ?_
  intro p e s m args below meth c A ls hsz hx hb hr hml hown hts hlocks hP hK hD hS hA hE hin hl Q hQ
  subst hsz
  have hl : lv_has ls 1 [(0, .ref t0)] := hl
  have hown : s.vm.findClass RX2 = some m.cls := hown
  have iX2 : ∀ w ∈ u_ws RX2 TX2 2, w ∈ wsX2_empty := by decide +kernel
  unfold fX2_empty at hf
  refine lv_aload_n hx hb dX2_empty_0 rfl (lv_at hl 0 rfl) ?_
  refine lv_iconst (v := 0) hx hb dX2_empty_1 (by decide) ?_
  refine va_put (D := D) (ci := 2) (v := .int 0) (ty := .int) (C := RX2) (T := TX2) (N := 2) hx hb hts iX2 tyX2 tyX2_ok nmX2 hown hK hP hD hS 0 rfl rfl 1 (by decide) (hts (.fieldLink RX2 15 "LongCaterpillars$Text" "used" "I") (List.mem_of_getElem? (i := 1) rfl)) (fun _ h9 => h9) rfl (by decide +kernel) rfl rfl (Nat.le_of_ble_eq_true rfl) dX2_empty_2 (fun H locs hP hD hS => ?_)
  have hP : va_P D vwCl [(t0, .inr (2, [.ref t1, .int 0])), (t1, .inl (cI, 120, .inl ch))] H := hP
  have hD : va_D A [(t0, .inr (2, [.ref t1, .int 0])), (t1, .inl (cI, 120, .inl ch))] := hD
  cases hf
  exact rt_v hQ hx hb hr hlocks hP hD hS dX2_empty_5
abbrev rmX2_add : Room := ({ frames := 1, cells := 0, slots := 0, locals := 0 })
set_option maxHeartbeats 4000000 in
set_option maxRecDepth 100000 in
theorem kX2_add (l : Launch) (D : va_G) (cI cB cL : ClassId) (t0 : Nat) (t1 : Nat) (sz : Nat) (us : Int32) (ch : Nat → Int32) (p0 : Int32) (us' : Int32) (ch' : Nat → Int32) (hf : fX2_add us ch p0 = some (us', ch')) : Met l yX2_add wsX2_add rmX2_add (mPc D (tyK cI cB cL) [.ref t0, .int p0] sz [(t0, .inr (2, [.ref t1, .int us])), (t1, .inl (cI, 120, .inl ch))]) (mQv D [(t0, .inr (2, [.ref t1, .int us'])), (t1, .inl (cI, 120, .inl ch'))] (va_A [(t0, .inr (2, [.ref t1, .int us])), (t1, .inl (cI, 120, .inl ch))] sz)) 0 0 (va_A [(t0, .inr (2, [.ref t1, .int us])), (t1, .inl (cI, 120, .inl ch))] sz) := by
  refine m_of (Qf := mQv D [(t0, .inr (2, [.ref t1, .int us'])), (t1, .inl (cI, 120, .inl ch'))]) (cc := cX2_add) (maxL := 2) (ret := none) (by decide) rfl (Nat.le_of_ble_eq_true rfl) ?_
  intro p e s m args below meth c A ls hsz hx hb hr hml hown hts hlocks hP hK hD hS hA hE hin hl Q hQ
  subst hsz
  have hl : lv_has ls 2 [(0, .ref t0), (1, .int p0)] := hl
  have hown : s.vm.findClass RX2 = some m.cls := hown
  have iX2 : ∀ w ∈ u_ws RX2 TX2 2, w ∈ wsX2_add := by decide +kernel
  unfold fX2_add at hf
  refine lv_aload_n hx hb dX2_add_0 rfl (lv_at hl 0 rfl) ?_
  refine va_get (D := D) (ci := 2) (v := .int us) (C := RX2) (T := TX2) (N := 2) hx hb hts iX2 hown hK hP 0 rfl rfl 1 (by decide) (hts (.fieldLink RX2 15 "LongCaterpillars$Text" "used" "I") (List.mem_of_getElem? (i := 1) rfl)) (fun _ h9 => h9) rfl dX2_add_1 ?_
  refine lv_if_lt (tgt := 36) hx hb dX2_add_4 (by decide) (fun c_1 => ?_) (fun c_1 => ?_)
  · have hf := br_pos c_1 hf
    cases hf
    exact rt_v hQ hx hb hr hlocks hP hD hS dX2_add_36
  · have hf := br_neg c_1 hf
    refine lv_aload_n hx hb dX2_add_7 rfl (lv_at hl 0 rfl) ?_
    refine va_get (D := D) (ci := 2) (v := .int us) (C := RX2) (T := TX2) (N := 2) hx hb hts iX2 hown hK hP 0 rfl rfl 1 (by decide) (hts (.fieldLink RX2 15 "LongCaterpillars$Text" "used" "I") (List.mem_of_getElem? (i := 1) rfl)) (fun _ h9 => h9) rfl dX2_add_8 ?_
    refine lv_bipush (v := 120) hx hb dX2_add_11 (by decide) ?_
    refine lv_icmp_ge (tgt := 36) hx hb dX2_add_13 (by decide) (fun c_2 => ?_) (fun c_2 => ?_)
    · have hf := br_pos c_2 hf
      cases hf
      exact rt_v hQ hx hb hr hlocks hP hD hS dX2_add_36
    · have hf := br_neg c_2 hf
      refine lv_aload_n hx hb dX2_add_16 rfl (lv_at hl 0 rfl) ?_
      refine va_get (D := D) (ci := 2) (v := .ref t1) (C := RX2) (T := TX2) (N := 2) hx hb hts iX2 hown hK hP 0 rfl rfl 0 (by decide) (hts (.fieldLink RX2 9 "LongCaterpillars$Text" "characters" "[I") (List.mem_of_getElem? (i := 2) rfl)) (fun _ h9 => h9) rfl dX2_add_17 ?_
      refine lv_aload_n hx hb dX2_add_20 rfl (lv_at hl 0 rfl) ?_
      refine va_get (D := D) (ci := 2) (v := .int us) (C := RX2) (T := TX2) (N := 2) hx hb hts iX2 hown hK hP 0 rfl rfl 1 (by decide) (hts (.fieldLink RX2 15 "LongCaterpillars$Text" "used" "I") (List.mem_of_getElem? (i := 1) rfl)) (fun _ h9 => h9) rfl dX2_add_21 ?_
      refine lv_iload_n hx hb dX2_add_24 rfl (lv_at hl 1 rfl) ?_
      obtain ⟨i_3, hf⟩ := gd_some hf
      refine x_iast hx hb hK hP hD hS 1 0 rfl rfl i_3 _ rfl [(t0, .inr (2, [.ref t1, .int us])), (t1, .inl (cI, 120, .inl (upd ch (us.toNatClampNeg) p0)))] rfl dX2_add_25 (fun H locs hP hD hS => ?_)
      refine lv_aload_n hx hb dX2_add_26 rfl (lv_at hl 0 rfl) ?_
      refine lv_dup hx hb dX2_add_27 rfl ?_
      refine va_get (D := D) (ci := 2) (v := .int us) (C := RX2) (T := TX2) (N := 2) hx hb hts iX2 hown hK hP 0 rfl rfl 1 (by decide) (hts (.fieldLink RX2 15 "LongCaterpillars$Text" "used" "I") (List.mem_of_getElem? (i := 1) rfl)) (fun _ h9 => h9) rfl dX2_add_28 ?_
      refine lv_iconst (v := 1) hx hb dX2_add_31 (by decide) ?_
      refine lv_iadd hx hb dX2_add_32 ?_
      refine va_put (D := D) (ci := 2) (v := .int (us + 1)) (ty := .int) (C := RX2) (T := TX2) (N := 2) hx hb hts iX2 tyX2 tyX2_ok nmX2 hown hK hP hD hS 0 rfl rfl 1 (by decide) (hts (.fieldLink RX2 15 "LongCaterpillars$Text" "used" "I") (List.mem_of_getElem? (i := 1) rfl)) (fun _ h9 => h9) rfl (by decide +kernel) rfl rfl (Nat.le_of_ble_eq_true rfl) dX2_add_33 (fun H locs hP hD hS => ?_)
      have hP : va_P D vwCl [(t0, .inr (2, [.ref t1, .int (us + 1)])), (t1, .inl (cI, 120, .inl (upd ch (us.toNatClampNeg) p0)))] H := hP
      have hD : va_D A [(t0, .inr (2, [.ref t1, .int (us + 1)])), (t1, .inl (cI, 120, .inl (upd ch (us.toNatClampNeg) p0)))] := hD
      cases hf
      exact rt_v hQ hx hb hr hlocks hP hD hS dX2_add_36
abbrev rmX2_at : Room := ({ frames := 1, cells := 0, slots := 0, locals := 0 })
set_option maxHeartbeats 4000000 in
set_option maxRecDepth 100000 in
theorem kX2_at (l : Launch) (D : va_G) (cI cB cL : ClassId) (t0 : Nat) (t1 : Nat) (sz : Nat) (us : Int32) (ch : Nat → Int32) (p0 : Int32) (w : Int32) (hf : fX2_at us ch p0 = some w) : Met l yX2_at wsX2_at rmX2_at (mPc D (tyK cI cB cL) [.ref t0, .int p0] sz [(t0, .inr (2, [.ref t1, .int us])), (t1, .inl (cI, 120, .inl ch))]) (mQi D w [(t0, .inr (2, [.ref t1, .int us])), (t1, .inl (cI, 120, .inl ch))] (va_A [(t0, .inr (2, [.ref t1, .int us])), (t1, .inl (cI, 120, .inl ch))] sz)) 0 0 (va_A [(t0, .inr (2, [.ref t1, .int us])), (t1, .inl (cI, 120, .inl ch))] sz) := by
  refine m_of (Qf := mQi D w [(t0, .inr (2, [.ref t1, .int us])), (t1, .inl (cI, 120, .inl ch))]) (cc := cX2_at) (maxL := 2) (ret := (some .int)) (by decide) rfl (Nat.le_of_ble_eq_true rfl) ?_
  intro p e s m args below meth c A ls hsz hx hb hr hml hown hts hlocks hP hK hD hS hA hE hin hl Q hQ
  subst hsz
  have hl : lv_has ls 2 [(0, .ref t0), (1, .int p0)] := hl
  have hown : s.vm.findClass RX2 = some m.cls := hown
  have iX2 : ∀ w ∈ u_ws RX2 TX2 2, w ∈ wsX2_at := by decide +kernel
  unfold fX2_at at hf
  refine lv_iload_n hx hb dX2_at_0 rfl (lv_at hl 1 rfl) ?_
  refine lv_if_lt (tgt := 27) hx hb dX2_at_1 (by decide) (fun c_1 => ?_) (fun c_1 => ?_)
  · have hf := br_pos c_1 hf
    refine lv_iconst (v := (-1)) hx hb dX2_at_27 (by decide) ?_
    cases hf
    exact rt_i hQ hx hb hr hlocks hP hD hS dX2_at_28
  · have hf := br_neg c_1 hf
    refine lv_iload_n hx hb dX2_at_4 rfl (lv_at hl 1 rfl) ?_
    refine lv_aload_n hx hb dX2_at_5 rfl (lv_at hl 0 rfl) ?_
    refine va_get (D := D) (ci := 2) (v := .int us) (C := RX2) (T := TX2) (N := 2) hx hb hts iX2 hown hK hP 0 rfl rfl 1 (by decide) (hts (.fieldLink RX2 15 "LongCaterpillars$Text" "used" "I") (List.mem_of_getElem? (i := 1) rfl)) (fun _ h9 => h9) rfl dX2_at_6 ?_
    refine lv_icmp_ge (tgt := 27) hx hb dX2_at_9 (by decide) (fun c_2 => ?_) (fun c_2 => ?_)
    · have hf := br_pos c_2 hf
      refine lv_iconst (v := (-1)) hx hb dX2_at_27 (by decide) ?_
      cases hf
      exact rt_i hQ hx hb hr hlocks hP hD hS dX2_at_28
    · have hf := br_neg c_2 hf
      refine lv_iload_n hx hb dX2_at_12 rfl (lv_at hl 1 rfl) ?_
      refine lv_bipush (v := 120) hx hb dX2_at_13 (by decide) ?_
      refine lv_icmp_ge (tgt := 27) hx hb dX2_at_15 (by decide) (fun c_3 => ?_) (fun c_3 => ?_)
      · have hf := br_pos c_3 hf
        refine lv_iconst (v := (-1)) hx hb dX2_at_27 (by decide) ?_
        cases hf
        exact rt_i hQ hx hb hr hlocks hP hD hS dX2_at_28
      · have hf := br_neg c_3 hf
        refine lv_aload_n hx hb dX2_at_18 rfl (lv_at hl 0 rfl) ?_
        refine va_get (D := D) (ci := 2) (v := .ref t1) (C := RX2) (T := TX2) (N := 2) hx hb hts iX2 hown hK hP 0 rfl rfl 0 (by decide) (hts (.fieldLink RX2 9 "LongCaterpillars$Text" "characters" "[I") (List.mem_of_getElem? (i := 2) rfl)) (fun _ h9 => h9) rfl dX2_at_19 ?_
        refine lv_iload_n hx hb dX2_at_22 rfl (lv_at hl 1 rfl) ?_
        obtain ⟨i_4, hf⟩ := gd_some hf
        refine x_iald hx hb hK hP 1 0 rfl rfl i_4 _ rfl dX2_at_23 ?_
        refine lv_goto (tgt := 28) hx hb dX2_at_24 (by decide) ?_
        cases hf
        exact rt_i hQ hx hb hr hlocks hP hD hS dX2_at_28
abbrev rmX2_isDigit : Room := ({ frames := 1, cells := 0, slots := 0, locals := 0 })
set_option maxHeartbeats 4000000 in
set_option maxRecDepth 100000 in
theorem kX2_isDigit (l : Launch) (D : va_G) (cI cB cL : ClassId) (sz : Nat) (p0 : Int32) (p1 : Int32) (p2 : Int32) (w : Int32) (hf : fX2_isDigit p0 p1 p2 = some w) : Met l yX2_isDigit wsX2_isDigit rmX2_isDigit (mPc D (tyK cI cB cL) [.int p0, .int p1, .int p2] sz []) (mQi D w [] (va_A [] sz)) 0 0 (va_A [] sz) := by
  refine m_of (Qf := mQi D w []) (cc := cX2_isDigit) (maxL := 3) (ret := (some .boolean)) (by decide) rfl (Nat.le_of_ble_eq_true rfl) ?_
  intro p e s m args below meth c A ls hsz hx hb hr hml hown hts hlocks hP hK hD hS hA hE hin hl Q hQ
  subst hsz
  have hl : lv_has ls 3 [(0, .int p0), (1, .int p1), (2, .int p2)] := hl
  have hown : s.vm.findClass RX2 = some m.cls := hown
  unfold fX2_isDigit at hf
  refine lv_iload_n hx hb dX2_isDigit_0 rfl (lv_at hl 0 rfl) ?_
  refine lv_iload_n hx hb dX2_isDigit_1 rfl (lv_at hl 1 rfl) ?_
  refine lv_icmp_lt (tgt := 14) hx hb dX2_isDigit_2 (by decide) (fun c_1 => ?_) (fun c_1 => ?_)
  · have hf := br_pos c_1 hf
    refine lv_iconst (v := 0) hx hb dX2_isDigit_14 (by decide) ?_
    cases hf
    exact rt_z hQ hx hb hr rfl hlocks hP hD hS dX2_isDigit_15
  · have hf := br_neg c_1 hf
    refine lv_iload_n hx hb dX2_isDigit_5 rfl (lv_at hl 0 rfl) ?_
    refine lv_iload_n hx hb dX2_isDigit_6 rfl (lv_at hl 2 rfl) ?_
    refine lv_icmp_gt (tgt := 14) hx hb dX2_isDigit_7 (by decide) (fun c_2 => ?_) (fun c_2 => ?_)
    · have hf := br_pos c_2 hf
      refine lv_iconst (v := 0) hx hb dX2_isDigit_14 (by decide) ?_
      cases hf
      exact rt_z hQ hx hb hr rfl hlocks hP hD hS dX2_isDigit_15
    · have hf := br_neg c_2 hf
      refine lv_iconst (v := 1) hx hb dX2_isDigit_10 (by decide) ?_
      refine lv_goto (tgt := 15) hx hb dX2_isDigit_11 (by decide) ?_
      cases hf
      exact rt_z hQ hx hb hr rfl hlocks hP hD hS dX2_isDigit_15
abbrev rmX2_isDigitAt : Room := ({ frames := 2, cells := 0, slots := 0, locals := 22 })
set_option maxHeartbeats 4000000 in
set_option maxRecDepth 100000 in
theorem kX2_isDigitAt (l : Launch) (D : va_G) (cI cB cL : ClassId) (t0 : Nat) (t1 : Nat) (sz : Nat) (us : Int32) (ch : Nat → Int32) (p0 : Int32) (w : Int32) (hf : fX2_isDigitAt us ch p0 = some w) : Met l yX2_isDigitAt wsX2_isDigitAt rmX2_isDigitAt (mPc D (tyK cI cB cL) [.ref t0, .int p0] sz [(t0, .inr (2, [.ref t1, .int us])), (t1, .inl (cI, 120, .inl ch))]) (mQi D w [(t0, .inr (2, [.ref t1, .int us])), (t1, .inl (cI, 120, .inl ch))] (va_A [(t0, .inr (2, [.ref t1, .int us])), (t1, .inl (cI, 120, .inl ch))] sz)) 0 0 (va_A [(t0, .inr (2, [.ref t1, .int us])), (t1, .inl (cI, 120, .inl ch))] sz) := by
  refine m_of (Qf := mQi D w [(t0, .inr (2, [.ref t1, .int us])), (t1, .inl (cI, 120, .inl ch))]) (cc := cX2_isDigitAt) (maxL := 2) (ret := (some .boolean)) (by decide) rfl (Nat.le_of_ble_eq_true rfl) ?_
  intro p e s m args below meth c A ls hsz hx hb hr hml hown hts hlocks hP hK hD hS hA hE hin hl Q hQ
  subst hsz
  have hl : lv_has ls 2 [(0, .ref t0), (1, .int p0)] := hl
  have hown : s.vm.findClass RX2 = some m.cls := hown
  unfold fX2_isDigitAt at hf
  refine lv_aload_n hx hb dX2_isDigitAt_0 rfl (lv_at hl 0 rfl) ?_
  refine lv_iload_n hx hb dX2_isDigitAt_1 rfl (lv_at hl 1 rfl) ?_
  obtain ⟨q, h_1, hf⟩ := bd_some hf
  obtain ⟨r_2, rfl⟩ : ∃ z, z = q := ⟨_, rfl⟩
  try dsimp only at hf
  refine cl_i (ws := [(t0, .inr (2, [.ref t1, .int us])), (t1, .inl (cI, 120, .inl ch))]) (wc := [(t0, .inr (2, [.ref t1, .int us])), (t1, .inl (cI, 120, .inl ch))]) (wr := []) (w1 := [(t0, .inr (2, [.ref t1, .int us])), (t1, .inl (cI, 120, .inl ch))]) (ws' := [(t0, .inr (2, [.ref t1, .int us])), (t1, .inl (cI, 120, .inl ch))]) hP hD hS hA [0, 1] [] [0, 1] rfl rfl (by decide) (by decide) rfl (by decide) (va_runV (As := [.int p0]) (rest := []) ⟨hx, hb, hml, hown, hts⟩ (kX2_at l D cI cB cL t0 t1 _ us ch p0 r_2 h_1) (cwV 1 hts gX2_isDigitAt_X2_at rfl rfl rfl (by decide +kernel) ⟨Nat.le_of_ble_eq_true rfl, Nat.le_of_ble_eq_true rfl⟩) (pre_V (ci := 2) (q0 := 0) (T := TX2) (N := 2) hK hE hP hD hS hA [0, 1] rfl (by decide) rfl rfl) rfl rfl hl.1 rfl (lv_room (Nat.le_of_ble_eq_true rfl)) dX2_isDigitAt_2 ⟨Nat.le_of_ble_eq_true rfl, Nat.le_of_ble_eq_true rfl⟩) (fun H locs hP hD hS => ?_)
  refine lv_bipush (v := 48) hx hb dX2_isDigitAt_5 (by decide) ?_
  refine lv_bipush (v := 57) hx hb dX2_isDigitAt_7 (by decide) ?_
  obtain ⟨q, h_3, hf⟩ := bd_some hf
  obtain ⟨r_4, rfl⟩ : ∃ z, z = q := ⟨_, rfl⟩
  try dsimp only at hf
  refine cl_i (ws := [(t0, .inr (2, [.ref t1, .int us])), (t1, .inl (cI, 120, .inl ch))]) (wc := []) (wr := [(t0, .inr (2, [.ref t1, .int us])), (t1, .inl (cI, 120, .inl ch))]) (w1 := []) (ws' := [(t0, .inr (2, [.ref t1, .int us])), (t1, .inl (cI, 120, .inl ch))]) hP hD hS hA [] [0, 1] [0, 1] rfl rfl (by decide) (by decide) rfl (by decide) (va_runS (As := [.int r_2, .int 48, .int 57]) (rest := []) ⟨hx, hb, hml, hown, hts⟩ (kX2_isDigit l D cI cB cL _ r_2 48 57 r_4 h_3) (va_cwS 3 hts gX2_isDigitAt_X2_isDigit rfl rfl rfl (by decide +kernel) ⟨Nat.le_of_ble_eq_true rfl, Nat.le_of_ble_eq_true rfl⟩) (pre_S hK hE hP hD hS hA [] rfl (by decide)) rfl rfl hl.1 rfl (lv_room (Nat.le_of_ble_eq_true rfl)) dX2_isDigitAt_9 ⟨Nat.le_of_ble_eq_true rfl, Nat.le_of_ble_eq_true rfl⟩) (fun H locs hP hD hS => ?_)
  obtain ⟨z_5, hf⟩ := gz_some hf
  cases hf
  exact rt_z hQ hx hb hr (isz_n z_5) hlocks hP hD hS dX2_isDigitAt_12
abbrev rmX2_digit : Room := ({ frames := 2, cells := 0, slots := 0, locals := 21 })
set_option maxHeartbeats 4000000 in
set_option maxRecDepth 100000 in
theorem kX2_digit (l : Launch) (D : va_G) (cI cB cL : ClassId) (t0 : Nat) (t1 : Nat) (sz : Nat) (us : Int32) (ch : Nat → Int32) (p0 : Int32) (w : Int32) (hf : fX2_digit us ch p0 = some w) : Met l yX2_digit wsX2_digit rmX2_digit (mPc D (tyK cI cB cL) [.ref t0, .int p0] sz [(t0, .inr (2, [.ref t1, .int us])), (t1, .inl (cI, 120, .inl ch))]) (mQi D w [(t0, .inr (2, [.ref t1, .int us])), (t1, .inl (cI, 120, .inl ch))] (va_A [(t0, .inr (2, [.ref t1, .int us])), (t1, .inl (cI, 120, .inl ch))] sz)) 0 0 (va_A [(t0, .inr (2, [.ref t1, .int us])), (t1, .inl (cI, 120, .inl ch))] sz) := by
  refine m_of (Qf := mQi D w [(t0, .inr (2, [.ref t1, .int us])), (t1, .inl (cI, 120, .inl ch))]) (cc := cX2_digit) (maxL := 2) (ret := (some .int)) (by decide) rfl (Nat.le_of_ble_eq_true rfl) ?_
  intro p e s m args below meth c A ls hsz hx hb hr hml hown hts hlocks hP hK hD hS hA hE hin hl Q hQ
  subst hsz
  have hl : lv_has ls 2 [(0, .ref t0), (1, .int p0)] := hl
  have hown : s.vm.findClass RX2 = some m.cls := hown
  unfold fX2_digit at hf
  refine lv_aload_n hx hb dX2_digit_0 rfl (lv_at hl 0 rfl) ?_
  refine lv_iload_n hx hb dX2_digit_1 rfl (lv_at hl 1 rfl) ?_
  obtain ⟨q, h_1, hf⟩ := bd_some hf
  obtain ⟨r_2, rfl⟩ : ∃ z, z = q := ⟨_, rfl⟩
  try dsimp only at hf
  refine cl_i (ws := [(t0, .inr (2, [.ref t1, .int us])), (t1, .inl (cI, 120, .inl ch))]) (wc := [(t0, .inr (2, [.ref t1, .int us])), (t1, .inl (cI, 120, .inl ch))]) (wr := []) (w1 := [(t0, .inr (2, [.ref t1, .int us])), (t1, .inl (cI, 120, .inl ch))]) (ws' := [(t0, .inr (2, [.ref t1, .int us])), (t1, .inl (cI, 120, .inl ch))]) hP hD hS hA [0, 1] [] [0, 1] rfl rfl (by decide) (by decide) rfl (by decide) (va_runV (As := [.int p0]) (rest := []) ⟨hx, hb, hml, hown, hts⟩ (kX2_at l D cI cB cL t0 t1 _ us ch p0 r_2 h_1) (cwV 1 hts gX2_digit_X2_at rfl rfl rfl (by decide +kernel) ⟨Nat.le_of_ble_eq_true rfl, Nat.le_of_ble_eq_true rfl⟩) (pre_V (ci := 2) (q0 := 0) (T := TX2) (N := 2) hK hE hP hD hS hA [0, 1] rfl (by decide) rfl rfl) rfl rfl hl.1 rfl (lv_room (Nat.le_of_ble_eq_true rfl)) dX2_digit_2 ⟨Nat.le_of_ble_eq_true rfl, Nat.le_of_ble_eq_true rfl⟩) (fun H locs hP hD hS => ?_)
  refine lv_bipush (v := 48) hx hb dX2_digit_5 (by decide) ?_
  refine lv_isub hx hb dX2_digit_7 ?_
  cases hf
  exact rt_i hQ hx hb hr hlocks hP hD hS dX2_digit_8
abbrev rmX2_twoDigits : Room := ({ frames := 3, cells := 0, slots := 0, locals := 42 })
set_option maxHeartbeats 4000000 in
set_option maxRecDepth 100000 in
theorem kX2_twoDigits (l : Launch) (D : va_G) (cI cB cL : ClassId) (t0 : Nat) (t1 : Nat) (sz : Nat) (us : Int32) (ch : Nat → Int32) (p0 : Int32) (w : Int32) (hf : fX2_twoDigits us ch p0 = some w) : Met l yX2_twoDigits wsX2_twoDigits rmX2_twoDigits (mPc D (tyK cI cB cL) [.ref t0, .int p0] sz [(t0, .inr (2, [.ref t1, .int us])), (t1, .inl (cI, 120, .inl ch))]) (mQi D w [(t0, .inr (2, [.ref t1, .int us])), (t1, .inl (cI, 120, .inl ch))] (va_A [(t0, .inr (2, [.ref t1, .int us])), (t1, .inl (cI, 120, .inl ch))] sz)) 0 0 (va_A [(t0, .inr (2, [.ref t1, .int us])), (t1, .inl (cI, 120, .inl ch))] sz) := by
  refine m_of (Qf := mQi D w [(t0, .inr (2, [.ref t1, .int us])), (t1, .inl (cI, 120, .inl ch))]) (cc := cX2_twoDigits) (maxL := 2) (ret := (some .int)) (by decide) rfl (Nat.le_of_ble_eq_true rfl) ?_
  intro p e s m args below meth c A ls hsz hx hb hr hml hown hts hlocks hP hK hD hS hA hE hin hl Q hQ
  subst hsz
  have hl : lv_has ls 2 [(0, .ref t0), (1, .int p0)] := hl
  have hown : s.vm.findClass RX2 = some m.cls := hown
  unfold fX2_twoDigits at hf
  refine lv_bipush (v := 10) hx hb dX2_twoDigits_0 (by decide) ?_
  refine lv_aload_n hx hb dX2_twoDigits_2 rfl (lv_at hl 0 rfl) ?_
  refine lv_iload_n hx hb dX2_twoDigits_3 rfl (lv_at hl 1 rfl) ?_
  obtain ⟨q, h_1, hf⟩ := bd_some hf
  obtain ⟨r_2, rfl⟩ : ∃ z, z = q := ⟨_, rfl⟩
  try dsimp only at hf
  refine cl_i (ws := [(t0, .inr (2, [.ref t1, .int us])), (t1, .inl (cI, 120, .inl ch))]) (wc := [(t0, .inr (2, [.ref t1, .int us])), (t1, .inl (cI, 120, .inl ch))]) (wr := []) (w1 := [(t0, .inr (2, [.ref t1, .int us])), (t1, .inl (cI, 120, .inl ch))]) (ws' := [(t0, .inr (2, [.ref t1, .int us])), (t1, .inl (cI, 120, .inl ch))]) hP hD hS hA [0, 1] [] [0, 1] rfl rfl (by decide) (by decide) rfl (by decide) (va_runV (As := [.int p0]) (rest := [.int 10]) ⟨hx, hb, hml, hown, hts⟩ (kX2_digit l D cI cB cL t0 t1 _ us ch p0 r_2 h_1) (cwV 1 hts gX2_twoDigits_X2_digit rfl rfl rfl (by decide +kernel) ⟨Nat.le_of_ble_eq_true rfl, Nat.le_of_ble_eq_true rfl⟩) (pre_V (ci := 2) (q0 := 0) (T := TX2) (N := 2) hK hE hP hD hS hA [0, 1] rfl (by decide) rfl rfl) rfl rfl hl.1 rfl (lv_room (Nat.le_of_ble_eq_true rfl)) dX2_twoDigits_4 ⟨Nat.le_of_ble_eq_true rfl, Nat.le_of_ble_eq_true rfl⟩) (fun H locs hP hD hS => ?_)
  refine lv_imul hx hb dX2_twoDigits_7 ?_
  refine lv_aload_n hx hb dX2_twoDigits_8 rfl (lv_at hl 0 rfl) ?_
  refine lv_iload_n hx hb dX2_twoDigits_9 rfl (lv_at hl 1 rfl) ?_
  refine lv_iconst (v := 1) hx hb dX2_twoDigits_10 (by decide) ?_
  refine lv_iadd hx hb dX2_twoDigits_11 ?_
  obtain ⟨q, h_3, hf⟩ := bd_some hf
  obtain ⟨r_4, rfl⟩ : ∃ z, z = q := ⟨_, rfl⟩
  try dsimp only at hf
  refine cl_i (ws := [(t0, .inr (2, [.ref t1, .int us])), (t1, .inl (cI, 120, .inl ch))]) (wc := [(t0, .inr (2, [.ref t1, .int us])), (t1, .inl (cI, 120, .inl ch))]) (wr := []) (w1 := [(t0, .inr (2, [.ref t1, .int us])), (t1, .inl (cI, 120, .inl ch))]) (ws' := [(t0, .inr (2, [.ref t1, .int us])), (t1, .inl (cI, 120, .inl ch))]) hP hD hS hA [0, 1] [] [0, 1] rfl rfl (by decide) (by decide) rfl (by decide) (va_runV (As := [.int (p0 + 1)]) (rest := [.int (10 * r_2)]) ⟨hx, hb, hml, hown, hts⟩ (kX2_digit l D cI cB cL t0 t1 _ us ch (p0 + 1) r_4 h_3) (cwV 1 hts gX2_twoDigits_X2_digit rfl rfl rfl (by decide +kernel) ⟨Nat.le_of_ble_eq_true rfl, Nat.le_of_ble_eq_true rfl⟩) (pre_V (ci := 2) (q0 := 0) (T := TX2) (N := 2) hK hE hP hD hS hA [0, 1] rfl (by decide) rfl rfl) rfl rfl hl.1 rfl (lv_room (Nat.le_of_ble_eq_true rfl)) dX2_twoDigits_12 ⟨Nat.le_of_ble_eq_true rfl, Nat.le_of_ble_eq_true rfl⟩) (fun H locs hP hD hS => ?_)
  refine lv_iadd hx hb dX2_twoDigits_15 ?_
  cases hf
  exact rt_i hQ hx hb hr hlocks hP hD hS dX2_twoDigits_16
abbrev rmX2_fits : Room := ({ frames := 2, cells := 0, slots := 0, locals := 22 })
set_option maxHeartbeats 4000000 in
set_option maxRecDepth 100000 in
theorem kX2_fits (l : Launch) (D : va_G) (cI cB cL : ClassId) (sz : Nat) (p0 : Int32) (p1 : Int32) (p2 : Int32) (w : Int32) (hf : fX2_fits p0 p1 p2 = some w) : Met l yX2_fits wsX2_fits rmX2_fits (mPc D (tyK cI cB cL) [.int p0, .int p1, .int p2] sz []) (mQi D w [] (va_A [] sz)) 0 0 (va_A [] sz) := by
  refine m_of (Qf := mQi D w []) (cc := cX2_fits) (maxL := 3) (ret := (some .boolean)) (by decide) rfl (Nat.le_of_ble_eq_true rfl) ?_
  intro p e s m args below meth c A ls hsz hx hb hr hml hown hts hlocks hP hK hD hS hA hE hin hl Q hQ
  subst hsz
  have hl : lv_has ls 3 [(0, .int p0), (1, .int p1), (2, .int p2)] := hl
  have hown : s.vm.findClass RX2 = some m.cls := hown
  have hl0 := hl
  have g85 : ∀ (z0 : Int32) (z1 : Int32) (z2 : Int32) (H : Heap) (locs : List Loc) (ls : Array Slot), fX2_fits_85 z0 z1 z2 = some w → va_P D vwCl [] H → va_D A [] → va_S A s.heap H locs → lv_has ls 3 [] → W p l e rmX2_fits s m args below meth c H locs 0 0 Q (F0 m 85 ls [.int z0, .int z1, .int z2]) := by
    intro  z0 z1 z2 H locs ls hf hP hD hS hl
    unfold fX2_fits_85 at hf
    obtain ⟨q, h_1, hf⟩ := bd_some hf
    obtain ⟨r_2, rfl⟩ : ∃ z, z = q := ⟨_, rfl⟩
    try dsimp only at hf
    refine cl_i (ws := []) (wc := []) (wr := []) (w1 := []) (ws' := []) hP hD hS hA [] [] [] rfl rfl (by decide) (by decide) rfl (by decide) (va_runS (As := [.int z2, .int z1, .int z0]) (rest := []) ⟨hx, hb, hml, hown, hts⟩ (kX2_isDigit l D cI cB cL _ z2 z1 z0 r_2 h_1) (va_cwS 3 hts gX2_fits_X2_isDigit rfl rfl rfl (by decide +kernel) ⟨Nat.le_of_ble_eq_true rfl, Nat.le_of_ble_eq_true rfl⟩) (pre_S hK hE hP hD hS hA [] rfl (by decide)) rfl rfl hl.1 rfl (lv_room (Nat.le_of_ble_eq_true rfl)) dX2_fits_85 ⟨Nat.le_of_ble_eq_true rfl, Nat.le_of_ble_eq_true rfl⟩) (fun H locs hP hD hS => ?_)
    obtain ⟨z_3, hf⟩ := gz_some hf
    cases hf
    exact rt_z hQ hx hb hr (isz_n z_3) hlocks hP hD hS dX2_fits_88
  have g134 : ∀ (z0 : Int32) (z1 : Int32) (z2 : Int32) (H : Heap) (locs : List Loc) (ls : Array Slot), fX2_fits_134 z0 z1 z2 = some w → va_P D vwCl [] H → va_D A [] → va_S A s.heap H locs → lv_has ls 3 [] → W p l e rmX2_fits s m args below meth c H locs 0 0 Q (F0 m 134 ls [.int z0, .int z1, .int z2]) := by
    intro  z0 z1 z2 H locs ls hf hP hD hS hl
    unfold fX2_fits_134 at hf
    obtain ⟨q, h_4, hf⟩ := bd_some hf
    obtain ⟨r_5, rfl⟩ : ∃ z, z = q := ⟨_, rfl⟩
    try dsimp only at hf
    refine cl_i (ws := []) (wc := []) (wr := []) (w1 := []) (ws' := []) hP hD hS hA [] [] [] rfl rfl (by decide) (by decide) rfl (by decide) (va_runS (As := [.int z2, .int z1, .int z0]) (rest := []) ⟨hx, hb, hml, hown, hts⟩ (kX2_isDigit l D cI cB cL _ z2 z1 z0 r_5 h_4) (va_cwS 3 hts gX2_fits_X2_isDigit rfl rfl rfl (by decide +kernel) ⟨Nat.le_of_ble_eq_true rfl, Nat.le_of_ble_eq_true rfl⟩) (pre_S hK hE hP hD hS hA [] rfl (by decide)) rfl rfl hl.1 rfl (lv_room (Nat.le_of_ble_eq_true rfl)) dX2_fits_134 ⟨Nat.le_of_ble_eq_true rfl, Nat.le_of_ble_eq_true rfl⟩) (fun H locs hP hD hS => ?_)
    obtain ⟨z_6, hf⟩ := gz_some hf
    cases hf
    exact rt_z hQ hx hb hr (isz_n z_6) hlocks hP hD hS dX2_fits_137
  have g121 : ∀ (z0 : Int32) (z1 : Int32) (H : Heap) (locs : List Loc) (ls : Array Slot), fX2_fits_121 p1 z0 z1 = some w → va_P D vwCl [] H → va_D A [] → va_S A s.heap H locs → lv_has ls 3 [(1, .int p1)] → W p l e rmX2_fits s m args below meth c H locs 0 0 Q (F0 m 121 ls [.int z0, .int z1]) := by
    intro  z0 z1 H locs ls hf hP hD hS hl
    unfold fX2_fits_121 at hf
    refine lv_iload_n hx hb dX2_fits_121 rfl (lv_at hl 0 rfl) ?_
    refine lv_bipush (v := 54) hx hb dX2_fits_122 (by decide) ?_
    refine lv_icmp_ne (tgt := 132) hx hb dX2_fits_124 (by decide) (fun c_7 => ?_) (fun c_7 => ?_)
    · have hf := br_neg c_7 hf
      refine lv_bipush (v := 57) hx hb dX2_fits_132 (by decide) ?_
      exact g134 57 z0 z1 _ _ _ hf hP hD hS (lv_sub hl [] rfl)
    · have hf := br_pos c_7 hf
      refine lv_bipush (v := 48) hx hb dX2_fits_127 (by decide) ?_
      refine lv_goto (tgt := 134) hx hb dX2_fits_129 (by decide) ?_
      exact g134 48 z0 z1 _ _ _ hf hP hD hS (lv_sub hl [] rfl)
  unfold fX2_fits at hf
  refine lv_iload_n hx hb dX2_fits_0 rfl (lv_at hl 0 rfl) ?_
  by_cases c_8 : p0 = 82
  · have hf := br_pos c_8 hf
    refine lv_lookup (off := 59) (tgt := 60) hx hb dX2_fits_1 (by decide) (by rw [c_8]; decide) (by decide) ?_
    refine lv_iload_n hx hb dX2_fits_60 rfl (lv_at hl 2 rfl) ?_
    refine lv_bipush (v := 48) hx hb dX2_fits_61 (by decide) ?_
    refine lv_bipush (v := 51) hx hb dX2_fits_63 (by decide) ?_
    obtain ⟨q, h_9, hf⟩ := bd_some hf
    obtain ⟨r_10, rfl⟩ : ∃ z, z = q := ⟨_, rfl⟩
    try dsimp only at hf
    refine cl_i (ws := []) (wc := []) (wr := []) (w1 := []) (ws' := []) hP hD hS hA [] [] [] rfl rfl (by decide) (by decide) rfl (by decide) (va_runS (As := [.int p2, .int 48, .int 51]) (rest := []) ⟨hx, hb, hml, hown, hts⟩ (kX2_isDigit l D cI cB cL _ p2 48 51 r_10 h_9) (va_cwS 3 hts gX2_fits_X2_isDigit rfl rfl rfl (by decide +kernel) ⟨Nat.le_of_ble_eq_true rfl, Nat.le_of_ble_eq_true rfl⟩) (pre_S hK hE hP hD hS hA [] rfl (by decide)) rfl rfl hl.1 rfl (lv_room (Nat.le_of_ble_eq_true rfl)) dX2_fits_65 ⟨Nat.le_of_ble_eq_true rfl, Nat.le_of_ble_eq_true rfl⟩) (fun H locs hP hD hS => ?_)
    obtain ⟨z_11, hf⟩ := gz_some hf
    cases hf
    exact rt_z hQ hx hb hr (isz_n z_11) hlocks hP hD hS dX2_fits_68
  have hf := br_neg c_8 hf
  by_cases c_12 : p0 = 84
  · have hf := br_pos c_12 hf
    refine lv_lookup (off := 97) (tgt := 98) hx hb dX2_fits_1 (by decide) (by rw [c_12]; decide) (by decide) ?_
    refine lv_iload_n hx hb dX2_fits_98 rfl (lv_at hl 2 rfl) ?_
    refine lv_bipush (v := 48) hx hb dX2_fits_99 (by decide) ?_
    refine lv_bipush (v := 54) hx hb dX2_fits_101 (by decide) ?_
    obtain ⟨q, h_13, hf⟩ := bd_some hf
    obtain ⟨r_14, rfl⟩ : ∃ z, z = q := ⟨_, rfl⟩
    try dsimp only at hf
    refine cl_i (ws := []) (wc := []) (wr := []) (w1 := []) (ws' := []) hP hD hS hA [] [] [] rfl rfl (by decide) (by decide) rfl (by decide) (va_runS (As := [.int p2, .int 48, .int 54]) (rest := []) ⟨hx, hb, hml, hown, hts⟩ (kX2_isDigit l D cI cB cL _ p2 48 54 r_14 h_13) (va_cwS 3 hts gX2_fits_X2_isDigit rfl rfl rfl (by decide +kernel) ⟨Nat.le_of_ble_eq_true rfl, Nat.le_of_ble_eq_true rfl⟩) (pre_S hK hE hP hD hS hA [] rfl (by decide)) rfl rfl hl.1 rfl (lv_room (Nat.le_of_ble_eq_true rfl)) dX2_fits_103 ⟨Nat.le_of_ble_eq_true rfl, Nat.le_of_ble_eq_true rfl⟩) (fun H locs hP hD hS => ?_)
    obtain ⟨z_15, hf⟩ := gz_some hf
    cases hf
    exact rt_z hQ hx hb hr (isz_n z_15) hlocks hP hD hS dX2_fits_106
  have hf := br_neg c_12 hf
  by_cases c_16 : p0 = 108
  · have hf := br_pos c_16 hf
    refine lv_lookup (off := 88) (tgt := 89) hx hb dX2_fits_1 (by decide) (by rw [c_16]; decide) (by decide) ?_
    refine lv_iload_n hx hb dX2_fits_89 rfl (lv_at hl 2 rfl) ?_
    refine lv_bipush (v := 49) hx hb dX2_fits_90 (by decide) ?_
    refine lv_bipush (v := 57) hx hb dX2_fits_92 (by decide) ?_
    obtain ⟨q, h_17, hf⟩ := bd_some hf
    obtain ⟨r_18, rfl⟩ : ∃ z, z = q := ⟨_, rfl⟩
    try dsimp only at hf
    refine cl_i (ws := []) (wc := []) (wr := []) (w1 := []) (ws' := []) hP hD hS hA [] [] [] rfl rfl (by decide) (by decide) rfl (by decide) (va_runS (As := [.int p2, .int 49, .int 57]) (rest := []) ⟨hx, hb, hml, hown, hts⟩ (kX2_isDigit l D cI cB cL _ p2 49 57 r_18 h_17) (va_cwS 3 hts gX2_fits_X2_isDigit rfl rfl rfl (by decide +kernel) ⟨Nat.le_of_ble_eq_true rfl, Nat.le_of_ble_eq_true rfl⟩) (pre_S hK hE hP hD hS hA [] rfl (by decide)) rfl rfl hl.1 rfl (lv_room (Nat.le_of_ble_eq_true rfl)) dX2_fits_94 ⟨Nat.le_of_ble_eq_true rfl, Nat.le_of_ble_eq_true rfl⟩) (fun H locs hP hD hS => ?_)
    obtain ⟨z_19, hf⟩ := gz_some hf
    cases hf
    exact rt_z hQ hx hb hr (isz_n z_19) hlocks hP hD hS dX2_fits_97
  have hf := br_neg c_16 hf
  by_cases c_20 : p0 = 114
  · have hf := br_pos c_20 hf
    refine lv_lookup (off := 68) (tgt := 69) hx hb dX2_fits_1 (by decide) (by rw [c_20]; decide) (by decide) ?_
    refine lv_iload_n hx hb dX2_fits_69 rfl (lv_at hl 2 rfl) ?_
    refine lv_bipush (v := 48) hx hb dX2_fits_70 (by decide) ?_
    refine lv_iload_n hx hb dX2_fits_72 rfl (lv_at hl 1 rfl) ?_
    refine lv_bipush (v := 51) hx hb dX2_fits_73 (by decide) ?_
    refine lv_icmp_ne (tgt := 83) hx hb dX2_fits_75 (by decide) (fun c_21 => ?_) (fun c_21 => ?_)
    · have hf := br_neg c_21 hf
      refine lv_bipush (v := 57) hx hb dX2_fits_83 (by decide) ?_
      exact g85 57 48 p2 _ _ _ hf hP hD hS (lv_sub hl [] rfl)
    · have hf := br_pos c_21 hf
      refine lv_bipush (v := 53) hx hb dX2_fits_78 (by decide) ?_
      refine lv_goto (tgt := 85) hx hb dX2_fits_80 (by decide) ?_
      exact g85 53 48 p2 _ _ _ hf hP hD hS (lv_sub hl [] rfl)
  have hf := br_neg c_20 hf
  by_cases c_22 : p0 = 116
  · have hf := br_pos c_22 hf
    refine lv_lookup (off := 106) (tgt := 107) hx hb dX2_fits_1 (by decide) (by rw [c_22]; decide) (by decide) ?_
    refine lv_iload_n hx hb dX2_fits_107 rfl (lv_at hl 2 rfl) ?_
    refine lv_iload_n hx hb dX2_fits_108 rfl (lv_at hl 1 rfl) ?_
    refine lv_bipush (v := 48) hx hb dX2_fits_109 (by decide) ?_
    refine lv_icmp_ne (tgt := 119) hx hb dX2_fits_111 (by decide) (fun c_23 => ?_) (fun c_23 => ?_)
    · have hf := br_neg c_23 hf
      refine lv_bipush (v := 48) hx hb dX2_fits_119 (by decide) ?_
      exact g121 48 p2 _ _ _ hf hP hD hS (lv_sub hl [1] rfl)
    · have hf := br_pos c_23 hf
      refine lv_bipush (v := 49) hx hb dX2_fits_114 (by decide) ?_
      refine lv_goto (tgt := 121) hx hb dX2_fits_116 (by decide) ?_
      exact g121 49 p2 _ _ _ hf hP hD hS (lv_sub hl [1] rfl)
  have hf := br_neg c_22 hf
  by_cases c_24 : p0 = 119
  · have hf := br_pos c_24 hf
    refine lv_lookup (off := 137) (tgt := 138) hx hb dX2_fits_1 (by decide) (by rw [c_24]; decide) (by decide) ?_
    refine lv_iload_n hx hb dX2_fits_138 rfl (lv_at hl 2 rfl) ?_
    refine lv_bipush (v := 48) hx hb dX2_fits_139 (by decide) ?_
    refine lv_bipush (v := 50) hx hb dX2_fits_141 (by decide) ?_
    obtain ⟨q, h_25, hf⟩ := bd_some hf
    obtain ⟨r_26, rfl⟩ : ∃ z, z = q := ⟨_, rfl⟩
    try dsimp only at hf
    refine cl_i (ws := []) (wc := []) (wr := []) (w1 := []) (ws' := []) hP hD hS hA [] [] [] rfl rfl (by decide) (by decide) rfl (by decide) (va_runS (As := [.int p2, .int 48, .int 50]) (rest := []) ⟨hx, hb, hml, hown, hts⟩ (kX2_isDigit l D cI cB cL _ p2 48 50 r_26 h_25) (va_cwS 3 hts gX2_fits_X2_isDigit rfl rfl rfl (by decide +kernel) ⟨Nat.le_of_ble_eq_true rfl, Nat.le_of_ble_eq_true rfl⟩) (pre_S hK hE hP hD hS hA [] rfl (by decide)) rfl rfl hl.1 rfl (lv_room (Nat.le_of_ble_eq_true rfl)) dX2_fits_143 ⟨Nat.le_of_ble_eq_true rfl, Nat.le_of_ble_eq_true rfl⟩) (fun H locs hP hD hS => ?_)
    obtain ⟨z_27, hf⟩ := gz_some hf
    cases hf
    exact rt_z hQ hx hb hr (isz_n z_27) hlocks hP hD hS dX2_fits_146
  have hf := br_neg c_24 hf
  refine lv_lookup (off := 146) (tgt := 147) hx hb dX2_fits_1 (by decide) (by have q0 := sw_ne (82) c_8 (by decide); have q1 := sw_ne (84) c_12 (by decide); have q2 := sw_ne (108) c_16 (by decide); have q3 := sw_ne (114) c_20 (by decide); have q4 := sw_ne (116) c_22 (by decide); have q5 := sw_ne (119) c_24 (by decide); simp only [Op.lookupswitch.offset]; simp [q0, q0.symm, q1, q1.symm, q2, q2.symm, q3, q3.symm, q4, q4.symm, q5, q5.symm]) (by decide) ?_
  refine lv_iload_n hx hb dX2_fits_147 rfl (lv_at hl 2 rfl) ?_
  refine lv_bipush (v := 48) hx hb dX2_fits_148 (by decide) ?_
  refine lv_bipush (v := 57) hx hb dX2_fits_150 (by decide) ?_
  obtain ⟨q, h_28, hf⟩ := bd_some hf
  obtain ⟨r_29, rfl⟩ : ∃ z, z = q := ⟨_, rfl⟩
  try dsimp only at hf
  refine cl_i (ws := []) (wc := []) (wr := []) (w1 := []) (ws' := []) hP hD hS hA [] [] [] rfl rfl (by decide) (by decide) rfl (by decide) (va_runS (As := [.int p2, .int 48, .int 57]) (rest := []) ⟨hx, hb, hml, hown, hts⟩ (kX2_isDigit l D cI cB cL _ p2 48 57 r_29 h_28) (va_cwS 3 hts gX2_fits_X2_isDigit rfl rfl rfl (by decide +kernel) ⟨Nat.le_of_ble_eq_true rfl, Nat.le_of_ble_eq_true rfl⟩) (pre_S hK hE hP hD hS hA [] rfl (by decide)) rfl rfl hl.1 rfl (lv_room (Nat.le_of_ble_eq_true rfl)) dX2_fits_152 ⟨Nat.le_of_ble_eq_true rfl, Nat.le_of_ble_eq_true rfl⟩) (fun H locs hP hD hS => ?_)
  obtain ⟨z_30, hf⟩ := gz_some hf
  cases hf
  exact rt_z hQ hx hb hr (isz_n z_30) hlocks hP hD hS dX2_fits_155
abbrev rmX2_firstFault : Room := ({ frames := 6, cells := 0, slots := 0, locals := 130 })
set_option maxHeartbeats 4000000 in
set_option maxRecDepth 100000 in
theorem kX2_firstFault (l : Launch) (D : va_G) (cI cB cL : ClassId) (t0 : Nat) (t1 : Nat) (sz : Nat) (us : Int32) (ch : Nat → Int32) (w : Int32) (hf : fX2_firstFault us ch = some w) : Met l yX2_firstFault wsX2_firstFault rmX2_firstFault (mPc D (tyK cI cB cL) [.ref t0] sz [(t0, .inr (2, [.ref t1, .int us])), (t1, .inl (cI, 120, .inl ch))]) (mQi D w [(t0, .inr (2, [.ref t1, .int us])), (t1, .inl (cI, 120, .inl ch))] (va_A [(t0, .inr (2, [.ref t1, .int us])), (t1, .inl (cI, 120, .inl ch))] sz)) 0 0 (va_A [(t0, .inr (2, [.ref t1, .int us])), (t1, .inl (cI, 120, .inl ch))] sz) := by
  refine m_of (Qf := mQi D w [(t0, .inr (2, [.ref t1, .int us])), (t1, .inl (cI, 120, .inl ch))]) (cc := cX2_firstFault) (maxL := 4) (ret := (some .int)) (by decide) rfl (Nat.le_of_ble_eq_true rfl) ?_
  intro p e s m args below meth c A ls hsz hx hb hr hml hown hts hlocks hP hK hD hS hA hE hin hl Q hQ
  subst hsz
  have hl : lv_has ls 4 [(0, .ref t0)] := hl
  have hown : s.vm.findClass RX2 = some m.cls := hown
  have iX2 : ∀ w ∈ u_ws RX2 TX2 2, w ∈ wsX2_firstFault := by decide +kernel
  obtain ⟨adK, adV, hEs⟩ := hE.2.2.2.2.2
  have hl0 := hl
  have g86 : ∀ (k19 : Nat → Int32 → Int32 → Option (Int32)) (hk19 : ∀ (v1 : Nat) (v2 : Int32) (v3 : Int32) (H : Heap) (locs : List Loc) (ls : Array Slot), k19 v1 v2 v3 = some w → va_P D vwCl [(t0, .inr (2, [.ref t1, .int us])), (t1, .inl (cI, 120, .inl ch))] H → va_D A [(t0, .inr (2, [.ref t1, .int us])), (t1, .inl (cI, 120, .inl ch))] → va_S A s.heap H locs → lv_has ls 4 [(0, .ref t0), (1, .ref (adK v1)), (2, .int v2), (3, .int v3)] → W p l e rmX2_firstFault s m args below meth c H locs 0 0 Q (F0 m 19 ls [])) (v1 : Nat) (v2 : Int32) (v3 : Int32) (H : Heap) (locs : List Loc) (ls : Array Slot), fX2_firstFault_86 k19 v1 v2 v3 = some w → va_P D vwCl [(t0, .inr (2, [.ref t1, .int us])), (t1, .inl (cI, 120, .inl ch))] H → va_D A [(t0, .inr (2, [.ref t1, .int us])), (t1, .inl (cI, 120, .inl ch))] → va_S A s.heap H locs → lv_has ls 4 [(0, .ref t0), (1, .ref (adK v1)), (2, .int v2), (3, .int v3)] → W p l e rmX2_firstFault s m args below meth c H locs 0 0 Q (F0 m 86 ls []) := by
    intro k19 hk19 v1 v2 v3 H locs ls hf hP hD hS hl
    unfold fX2_firstFault_86 at hf
    refine lv_iinc (v := (v3 + 1)) (lv' := [(3, .int (v3 + 1)), (0, .ref t0), (1, .ref (adK v1)), (2, .int v2)]) hx hb dX2_firstFault_86 hl (k := 3) rfl rfl (by decide) rfl (fun ls hl => ?_)
    refine lv_goto (tgt := 19) hx hb dX2_firstFault_89 (by decide) ?_
    exact hk19 v1 v2 (v3 + 1) _ _ _ hf hP hD hS (lv_sub hl [1, 2, 3, 0] rfl)
  have g19 : ∀ (n : Nat) (v1 : Nat) (v2 : Int32) (v3 : Int32) (H : Heap) (locs : List Loc) (ls : Array Slot), fX2_firstFault_19 us ch n v1 v2 v3 = some w → va_P D vwCl [(t0, .inr (2, [.ref t1, .int us])), (t1, .inl (cI, 120, .inl ch))] H → va_D A [(t0, .inr (2, [.ref t1, .int us])), (t1, .inl (cI, 120, .inl ch))] → va_S A s.heap H locs → lv_has ls 4 [(0, .ref t0), (1, .ref (adK v1)), (2, .int v2), (3, .int v3)] → W p l e rmX2_firstFault s m args below meth c H locs 0 0 Q (F0 m 19 ls []) := by
    intro  n
    induction n with
    | zero =>
      intro v1 v2 v3 H locs ls hf
      exact absurd hf (by rw [fX2_firstFault_19]; simp)
    | succ n ih =>
      intro v1 v2 v3 H locs ls hf hP hD hS hl
      rw [fX2_firstFault_19] at hf
      refine lv_iload_n hx hb dX2_firstFault_19 rfl (lv_at hl 3 rfl) ?_
      refine lv_aload_n hx hb dX2_firstFault_20 rfl (lv_at hl 0 rfl) ?_
      refine va_get (D := D) (ci := 2) (v := .int us) (C := RX2) (T := TX2) (N := 2) hx hb hts iX2 hown hK hP 0 rfl rfl 1 (by decide) (hts (.fieldLink RX2 15 "LongCaterpillars$Text" "used" "I") (List.mem_of_getElem? (i := 1) rfl)) (fun _ h9 => h9) rfl dX2_firstFault_21 ?_
      refine lv_icmp_ge (tgt := 92) hx hb dX2_firstFault_24 (by decide) (fun c_1 => ?_) (fun c_1 => ?_)
      · have hf := br_pos c_1 hf
        refine lv_iload_n hx hb dX2_firstFault_92 rfl (lv_at hl 2 rfl) ?_
        refine lv_aload_n hx hb dX2_firstFault_93 rfl (lv_at hl 1 rfl) ?_
        obtain ⟨z_2, hf⟩ := gz_some hf
        refine s_i (r := (sLen v1)) hS hA (va_runV (As := []) (rest := [.int v2]) ⟨hx, hb, hml, hown, hts⟩ (kJ0_length_8abf5 l adK adV _ v1 (of_decide_eq_true z_2)) (cwV 0 hts gX2_firstFault_J0_length_8abf5 rfl rfl rfl (by decide +kernel) ⟨Nat.le_of_ble_eq_true rfl, Nat.le_of_ble_eq_true rfl⟩) (s_preV (of_decide_eq_true z_2) hEs hS hA) rfl rfl hl.1 rfl (lv_room (Nat.le_of_ble_eq_true rfl)) dX2_firstFault_94 ⟨Nat.le_of_ble_eq_true rfl, Nat.le_of_ble_eq_true rfl⟩) (fun H locs hk9 hS => ?_)
        have hP := s_world hP hk9
        refine lv_icmp_ge (tgt := 107) hx hb dX2_firstFault_97 (by decide) (fun c_3 => ?_) (fun c_3 => ?_)
        · have hf := br_pos c_3 hf
          refine lv_iconst (v := (-1)) hx hb dX2_firstFault_107 (by decide) ?_
          cases hf
          exact rt_i hQ hx hb hr hlocks hP hD hS dX2_firstFault_108
        · have hf := br_neg c_3 hf
          refine lv_aload_n hx hb dX2_firstFault_100 rfl (lv_at hl 0 rfl) ?_
          refine va_get (D := D) (ci := 2) (v := .int us) (C := RX2) (T := TX2) (N := 2) hx hb hts iX2 hown hK hP 0 rfl rfl 1 (by decide) (hts (.fieldLink RX2 15 "LongCaterpillars$Text" "used" "I") (List.mem_of_getElem? (i := 1) rfl)) (fun _ h9 => h9) rfl dX2_firstFault_101 ?_
          refine lv_goto (tgt := 108) hx hb dX2_firstFault_104 (by decide) ?_
          cases hf
          exact rt_i hQ hx hb hr hlocks hP hD hS dX2_firstFault_108
      · have hf := br_neg c_1 hf
        refine lv_iload_n hx hb dX2_firstFault_27 rfl (lv_at hl 2 rfl) ?_
        refine lv_aload_n hx hb dX2_firstFault_28 rfl (lv_at hl 1 rfl) ?_
        obtain ⟨z_4, hf⟩ := gz_some hf
        refine s_i (r := (sLen v1)) hS hA (va_runV (As := []) (rest := [.int v2]) ⟨hx, hb, hml, hown, hts⟩ (kJ0_length_8abf5 l adK adV _ v1 (of_decide_eq_true z_4)) (cwV 0 hts gX2_firstFault_J0_length_8abf5 rfl rfl rfl (by decide +kernel) ⟨Nat.le_of_ble_eq_true rfl, Nat.le_of_ble_eq_true rfl⟩) (s_preV (of_decide_eq_true z_4) hEs hS hA) rfl rfl hl.1 rfl (lv_room (Nat.le_of_ble_eq_true rfl)) dX2_firstFault_29 ⟨Nat.le_of_ble_eq_true rfl, Nat.le_of_ble_eq_true rfl⟩) (fun H locs hk9 hS => ?_)
        have hP := s_world hP hk9
        refine lv_icmp_ge (tgt := 66) hx hb dX2_firstFault_32 (by decide) (fun c_5 => ?_) (fun c_5 => ?_)
        · have hf := br_pos c_5 hf
          refine lv_aload_n hx hb dX2_firstFault_66 rfl (lv_at hl 0 rfl) ?_
          refine lv_iload_n hx hb dX2_firstFault_67 rfl (lv_at hl 3 rfl) ?_
          obtain ⟨q, h_6, hf⟩ := bd_some hf
          obtain ⟨r_7, rfl⟩ : ∃ z, z = q := ⟨_, rfl⟩
          try dsimp only at hf
          refine cl_i (ws := [(t0, .inr (2, [.ref t1, .int us])), (t1, .inl (cI, 120, .inl ch))]) (wc := [(t0, .inr (2, [.ref t1, .int us])), (t1, .inl (cI, 120, .inl ch))]) (wr := []) (w1 := [(t0, .inr (2, [.ref t1, .int us])), (t1, .inl (cI, 120, .inl ch))]) (ws' := [(t0, .inr (2, [.ref t1, .int us])), (t1, .inl (cI, 120, .inl ch))]) hP hD hS hA [0, 1] [] [0, 1] rfl rfl (by decide) (by decide) rfl (by decide) (va_runV (As := [.int v3]) (rest := []) ⟨hx, hb, hml, hown, hts⟩ (kX2_at l D cI cB cL t0 t1 _ us ch v3 r_7 h_6) (cwV 1 hts gX2_firstFault_X2_at rfl rfl rfl (by decide +kernel) ⟨Nat.le_of_ble_eq_true rfl, Nat.le_of_ble_eq_true rfl⟩) (pre_V (ci := 2) (q0 := 0) (T := TX2) (N := 2) hK hE hP hD hS hA [0, 1] rfl (by decide) rfl rfl) rfl rfl hl.1 rfl (lv_room (Nat.le_of_ble_eq_true rfl)) dX2_firstFault_68 ⟨Nat.le_of_ble_eq_true rfl, Nat.le_of_ble_eq_true rfl⟩) (fun H locs hP hD hS => ?_)
          refine s_r (ad := adK (fX2_shapeOf r_7)) hS hA (va_runS (As := [.int r_7]) (rest := []) ⟨hx, hb, hml, hown, hts⟩ (kX2_shapeOf l adK adV _ r_7) (cwS 1 hts gX2_firstFault_X2_shapeOf rfl rfl rfl (by decide +kernel) ⟨Nat.le_of_ble_eq_true rfl, Nat.le_of_ble_eq_true rfl⟩) (s_preS hEs hS hA) rfl rfl hl.1 rfl (lv_room (Nat.le_of_ble_eq_true rfl)) dX2_firstFault_71 ⟨Nat.le_of_ble_eq_true rfl, Nat.le_of_ble_eq_true rfl⟩) (fun H locs hk9 hS => ?_)
          have hP := s_world hP hk9
          refine lv_astore_n (lv' := [(1, .ref (adK (fX2_shapeOf r_7))), (0, .ref t0), (2, .int v2), (3, .int v3)]) hx hb dX2_firstFault_74 rfl hl (by decide) rfl (fun ls hl => ?_)
          refine lv_aload_n hx hb dX2_firstFault_75 rfl (lv_at hl 0 rfl) ?_
          obtain ⟨z_8, hf⟩ := gz_some hf
          refine s_i (r := (sEm (fX2_shapeOf r_7))) hS hA (va_runV (As := []) (rest := []) ⟨hx, hb, hml, hown, hts⟩ (kJ0_isEmpty_aae02 l adK adV _ (fX2_shapeOf r_7) (of_decide_eq_true z_8)) (cwV 0 hts gX2_firstFault_J0_isEmpty_aae02 rfl rfl rfl (by decide +kernel) ⟨Nat.le_of_ble_eq_true rfl, Nat.le_of_ble_eq_true rfl⟩) (s_preV (of_decide_eq_true z_8) hEs hS hA) rfl rfl hl.1 rfl (lv_room (Nat.le_of_ble_eq_true rfl)) dX2_firstFault_76 ⟨Nat.le_of_ble_eq_true rfl, Nat.le_of_ble_eq_true rfl⟩) (fun H locs hk9 hS => ?_)
          have hP := s_world hP hk9
          refine lv_if_eq (tgt := 84) hx hb dX2_firstFault_79 (by decide) (fun c_9 => ?_) (fun c_9 => ?_)
          · have hf := br_pos c_9 hf
            refine lv_iconst (v := 0) hx hb dX2_firstFault_84 (by decide) ?_
            refine lv_istore_n (lv' := [(2, .int 0), (1, .ref (adK (fX2_shapeOf r_7))), (0, .ref t0), (3, .int v3)]) hx hb dX2_firstFault_85 rfl hl (by decide) rfl (fun ls hl => ?_)
            exact g86 (fX2_firstFault_19 us ch n) ih (fX2_shapeOf r_7) 0 v3 _ _ _ hf hP hD hS (lv_sub hl [2, 1, 0, 3] rfl)
          · have hf := br_neg c_9 hf
            refine lv_iload_n hx hb dX2_firstFault_82 rfl (lv_at hl 3 rfl) ?_
            cases hf
            exact rt_i hQ hx hb hr hlocks hP hD hS dX2_firstFault_83
        · have hf := br_neg c_5 hf
          refine lv_aload_n hx hb dX2_firstFault_35 rfl (lv_at hl 1 rfl) ?_
          refine lv_iload_n hx hb dX2_firstFault_36 rfl (lv_at hl 2 rfl) ?_
          obtain ⟨z_10, hf⟩ := gz_some hf
          obtain ⟨i_11, hf⟩ := gd_some hf
          refine s_i (r := (sCh v1 v2)) hS hA (va_runV (As := [.int v2]) (rest := []) ⟨hx, hb, hml, hown, hts⟩ (kJ0_charAt_5068e l adK adV _ v1 (of_decide_eq_true z_10) v2 i_11) (cwV 1 hts gX2_firstFault_J0_charAt_5068e rfl rfl rfl (by decide +kernel) ⟨Nat.le_of_ble_eq_true rfl, Nat.le_of_ble_eq_true rfl⟩) (s_preV (of_decide_eq_true z_10) hEs hS hA) rfl rfl hl.1 rfl (lv_room (Nat.le_of_ble_eq_true rfl)) dX2_firstFault_37 ⟨Nat.le_of_ble_eq_true rfl, Nat.le_of_ble_eq_true rfl⟩) (fun H locs hk9 hS => ?_)
          have hP := s_world hP hk9
          refine lv_aload_n hx hb dX2_firstFault_40 rfl (lv_at hl 0 rfl) ?_
          refine lv_iload_n hx hb dX2_firstFault_41 rfl (lv_at hl 3 rfl) ?_
          refine lv_iconst (v := 1) hx hb dX2_firstFault_42 (by decide) ?_
          refine lv_isub hx hb dX2_firstFault_43 ?_
          obtain ⟨q, h_12, hf⟩ := bd_some hf
          obtain ⟨r_13, rfl⟩ : ∃ z, z = q := ⟨_, rfl⟩
          try dsimp only at hf
          refine cl_i (ws := [(t0, .inr (2, [.ref t1, .int us])), (t1, .inl (cI, 120, .inl ch))]) (wc := [(t0, .inr (2, [.ref t1, .int us])), (t1, .inl (cI, 120, .inl ch))]) (wr := []) (w1 := [(t0, .inr (2, [.ref t1, .int us])), (t1, .inl (cI, 120, .inl ch))]) (ws' := [(t0, .inr (2, [.ref t1, .int us])), (t1, .inl (cI, 120, .inl ch))]) hP hD hS hA [0, 1] [] [0, 1] rfl rfl (by decide) (by decide) rfl (by decide) (va_runV (As := [.int (v3 - 1)]) (rest := [.int (sCh v1 v2)]) ⟨hx, hb, hml, hown, hts⟩ (kX2_at l D cI cB cL t0 t1 _ us ch (v3 - 1) r_13 h_12) (cwV 1 hts gX2_firstFault_X2_at rfl rfl rfl (by decide +kernel) ⟨Nat.le_of_ble_eq_true rfl, Nat.le_of_ble_eq_true rfl⟩) (pre_V (ci := 2) (q0 := 0) (T := TX2) (N := 2) hK hE hP hD hS hA [0, 1] rfl (by decide) rfl rfl) rfl rfl hl.1 rfl (lv_room (Nat.le_of_ble_eq_true rfl)) dX2_firstFault_44 ⟨Nat.le_of_ble_eq_true rfl, Nat.le_of_ble_eq_true rfl⟩) (fun H locs hP hD hS => ?_)
          refine lv_aload_n hx hb dX2_firstFault_47 rfl (lv_at hl 0 rfl) ?_
          refine lv_iload_n hx hb dX2_firstFault_48 rfl (lv_at hl 3 rfl) ?_
          obtain ⟨q, h_14, hf⟩ := bd_some hf
          obtain ⟨r_15, rfl⟩ : ∃ z, z = q := ⟨_, rfl⟩
          try dsimp only at hf
          refine cl_i (ws := [(t0, .inr (2, [.ref t1, .int us])), (t1, .inl (cI, 120, .inl ch))]) (wc := [(t0, .inr (2, [.ref t1, .int us])), (t1, .inl (cI, 120, .inl ch))]) (wr := []) (w1 := [(t0, .inr (2, [.ref t1, .int us])), (t1, .inl (cI, 120, .inl ch))]) (ws' := [(t0, .inr (2, [.ref t1, .int us])), (t1, .inl (cI, 120, .inl ch))]) hP hD hS hA [0, 1] [] [0, 1] rfl rfl (by decide) (by decide) rfl (by decide) (va_runV (As := [.int v3]) (rest := [.int r_13, .int (sCh v1 v2)]) ⟨hx, hb, hml, hown, hts⟩ (kX2_at l D cI cB cL t0 t1 _ us ch v3 r_15 h_14) (cwV 1 hts gX2_firstFault_X2_at rfl rfl rfl (by decide +kernel) ⟨Nat.le_of_ble_eq_true rfl, Nat.le_of_ble_eq_true rfl⟩) (pre_V (ci := 2) (q0 := 0) (T := TX2) (N := 2) hK hE hP hD hS hA [0, 1] rfl (by decide) rfl rfl) rfl rfl hl.1 rfl (lv_room (Nat.le_of_ble_eq_true rfl)) dX2_firstFault_49 ⟨Nat.le_of_ble_eq_true rfl, Nat.le_of_ble_eq_true rfl⟩) (fun H locs hP hD hS => ?_)
          obtain ⟨q, h_16, hf⟩ := bd_some hf
          obtain ⟨r_17, rfl⟩ : ∃ z, z = q := ⟨_, rfl⟩
          try dsimp only at hf
          refine cl_i (ws := [(t0, .inr (2, [.ref t1, .int us])), (t1, .inl (cI, 120, .inl ch))]) (wc := []) (wr := [(t0, .inr (2, [.ref t1, .int us])), (t1, .inl (cI, 120, .inl ch))]) (w1 := []) (ws' := [(t0, .inr (2, [.ref t1, .int us])), (t1, .inl (cI, 120, .inl ch))]) hP hD hS hA [] [0, 1] [0, 1] rfl rfl (by decide) (by decide) rfl (by decide) (va_runS (As := [.int (sCh v1 v2), .int r_13, .int r_15]) (rest := []) ⟨hx, hb, hml, hown, hts⟩ (kX2_fits l D cI cB cL _ (sCh v1 v2) r_13 r_15 r_17 h_16) (va_cwS 3 hts gX2_firstFault_X2_fits rfl rfl rfl (by decide +kernel) ⟨Nat.le_of_ble_eq_true rfl, Nat.le_of_ble_eq_true rfl⟩) (pre_S hK hE hP hD hS hA [] rfl (by decide)) rfl rfl hl.1 rfl (lv_room (Nat.le_of_ble_eq_true rfl)) dX2_firstFault_52 ⟨Nat.le_of_ble_eq_true rfl, Nat.le_of_ble_eq_true rfl⟩) (fun H locs hP hD hS => ?_)
          refine lv_if_ne (tgt := 60) hx hb dX2_firstFault_55 (by decide) (fun c_18 => ?_) (fun c_18 => ?_)
          · have hf := br_neg c_18 hf
            refine lv_iinc (v := (v2 + 1)) (lv' := [(2, .int (v2 + 1)), (0, .ref t0), (1, .ref (adK v1)), (3, .int v3)]) hx hb dX2_firstFault_60 hl (k := 2) rfl rfl (by decide) rfl (fun ls hl => ?_)
            refine lv_goto (tgt := 86) hx hb dX2_firstFault_63 (by decide) ?_
            exact g86 (fX2_firstFault_19 us ch n) ih v1 (v2 + 1) v3 _ _ _ hf hP hD hS (lv_sub hl [1, 2, 0, 3] rfl)
          · have hf := br_pos c_18 hf
            refine lv_iload_n hx hb dX2_firstFault_58 rfl (lv_at hl 3 rfl) ?_
            cases hf
            exact rt_i hQ hx hb hr hlocks hP hD hS dX2_firstFault_59
  unfold fX2_firstFault at hf
  refine lv_aload_n hx hb dX2_firstFault_0 rfl (lv_at hl 0 rfl) ?_
  refine lv_iconst (v := 0) hx hb dX2_firstFault_1 (by decide) ?_
  obtain ⟨q, h_19, hf⟩ := bd_some hf
  obtain ⟨r_20, rfl⟩ : ∃ z, z = q := ⟨_, rfl⟩
  try dsimp only at hf
  refine cl_i (ws := [(t0, .inr (2, [.ref t1, .int us])), (t1, .inl (cI, 120, .inl ch))]) (wc := [(t0, .inr (2, [.ref t1, .int us])), (t1, .inl (cI, 120, .inl ch))]) (wr := []) (w1 := [(t0, .inr (2, [.ref t1, .int us])), (t1, .inl (cI, 120, .inl ch))]) (ws' := [(t0, .inr (2, [.ref t1, .int us])), (t1, .inl (cI, 120, .inl ch))]) hP hD hS hA [0, 1] [] [0, 1] rfl rfl (by decide) (by decide) rfl (by decide) (va_runV (As := [.int 0]) (rest := []) ⟨hx, hb, hml, hown, hts⟩ (kX2_at l D cI cB cL t0 t1 _ us ch 0 r_20 h_19) (cwV 1 hts gX2_firstFault_X2_at rfl rfl rfl (by decide +kernel) ⟨Nat.le_of_ble_eq_true rfl, Nat.le_of_ble_eq_true rfl⟩) (pre_V (ci := 2) (q0 := 0) (T := TX2) (N := 2) hK hE hP hD hS hA [0, 1] rfl (by decide) rfl rfl) rfl rfl hl.1 rfl (lv_room (Nat.le_of_ble_eq_true rfl)) dX2_firstFault_2 ⟨Nat.le_of_ble_eq_true rfl, Nat.le_of_ble_eq_true rfl⟩) (fun H locs hP hD hS => ?_)
  refine lv_bipush (v := 76) hx hb dX2_firstFault_5 (by decide) ?_
  refine lv_icmp_eq (tgt := 12) hx hb dX2_firstFault_7 (by decide) (fun c_21 => ?_) (fun c_21 => ?_)
  · have hf := br_pos c_21 hf
    refine va_ldcS hx hb hown (hEs.2.2.1.1) dX2_firstFault_12 ?_
    refine lv_astore_n (lv' := [(1, .ref (adK 0)), (0, .ref t0)]) hx hb dX2_firstFault_14 rfl hl (by decide) rfl (fun ls hl => ?_)
    refine lv_iconst (v := 0) hx hb dX2_firstFault_15 (by decide) ?_
    refine lv_istore_n (lv' := [(2, .int 0), (1, .ref (adK 0)), (0, .ref t0)]) hx hb dX2_firstFault_16 rfl hl (by decide) rfl (fun ls hl => ?_)
    refine lv_iconst (v := 1) hx hb dX2_firstFault_17 (by decide) ?_
    refine lv_istore_n (lv' := [(3, .int 1), (2, .int 0), (1, .ref (adK 0)), (0, .ref t0)]) hx hb dX2_firstFault_18 rfl hl (by decide) rfl (fun ls hl => ?_)
    exact g19 5000 0 0 1 _ _ _ hf hP hD hS (lv_sub hl [3, 2, 1, 0] rfl)
  · have hf := br_neg c_21 hf
    refine lv_iconst (v := 0) hx hb dX2_firstFault_10 (by decide) ?_
    cases hf
    exact rt_i hQ hx hb hr hlocks hP hD hS dX2_firstFault_11
