-- M_call
noncomputable def fM_call (la : Int32) (cn : Int32) (us : Int32) (ch : Nat → Int32) (C : Nat → Int32) (G : Nat → Int32) (sv : Nat → Int32) (T : Nat → Int32) (B : Nat → Int32) (p1 : Int32) (p2 : Int32) (p3 : Int32) (p4 : Int32) : Option (Int32 × Int32 × Int32 × (Nat → Int32) × (Nat → Int32) × (Nat → Int32) × (Nat → Int32)) := (if p1 = 0 then ((fM_tryAppend la cn us ch C G sv T B p2).bind fun r_3 => some (r_3, la, cn, C, G, sv, B)) else (if p1 = 1 then none else (if p1 = 2 then ((fM_tryAbout la cn us ch C G sv T B p2).bind fun r_7 => some (r_7, la, cn, C, G, sv, B)) else (if p1 = 3 then ((fM_tryCat la cn us ch C G sv T B p2 p3).bind fun r_10 => some (r_10, la, cn, C, G, sv, B)) else (if p1 = 4 then ((fM_tryLies la cn us ch C G sv T B p2 p3).bind fun r_13 => some (r_13, la, cn, C, G, sv, B)) else (if p1 = 5 then ((fM_tryRoom la cn us ch C G sv T B p2 p3).bind fun r_16 => some (r_16, la, cn, C, G, sv, B)) else (if p1 = 6 then ((fM_tryNext la cn us ch C G sv T B p2).bind fun r_19 => some (r_19, la, cn, C, G, sv, B)) else (if p1 = 7 then ((fM_tryWaits la cn us ch C G sv T B p2).bind fun r_22 => some (r_22, la, cn, C, G, sv, B)) else (if p1 = 8 then ((fM_tryRing la cn us ch C G sv T B p2).bind fun r_25 => some (r_25, la, cn, C, G, sv, B)) else (if p1 = 9 then ((fM_tryHatch la cn us ch C G sv T B p2 p3 p4).bind fun (r_28, la_29, cn_30, C_31, G_32) => some (r_28, la_29, cn_30, C_31, G_32, sv, B)) else (if p1 = 10 then ((fM_tryTicks la cn us ch C G sv T B p2).bind fun (r_35, la_36, cn_37, C_38, G_39) => some (r_35, la_36, cn_37, C_38, G_39, sv, B)) else (if p1 = 11 then ((fM_tryRule la cn us ch C G sv T B p2).bind fun (r_42, la_43, cn_44, C_45, G_46) => some (r_42, la_43, cn_44, C_45, G_46, sv, B)) else (if p1 = 12 then ((fM_tryPull la cn us ch C G sv T B p2).bind fun (r_49, la_50, cn_51, C_52, G_53) => some (r_49, la_50, cn_51, C_52, G_53, sv, B)) else (if p1 = 13 then ((fM_tryUndo la cn us ch C G sv T B).bind fun (r_56, la_57, cn_58, C_59) => some (r_56, la_57, cn_58, C_59, G, sv, B)) else (if p1 = 14 then ((fM_tryGone la cn us ch C G sv T B p2).bind fun (r_62, B_63) => some (r_62, la, cn, C, G, sv, B_63)) else (if p1 = 15 then ((fM_tryIf la cn us ch C G sv T B p2 p3 p4).bind fun r_66 => some (r_66, la, cn, C, G, sv, B)) else (if p1 = 16 then ((fM_tryKeep la cn us ch C G sv T B p2).bind fun (r_69, G_70, sv_71) => some (r_69, la, cn, C, G_70, sv_71, B)) else ((fM_tryBack la cn us ch C G sv T B p2).bind fun (r_90, cn_91, C_92) => some (r_90, la, cn_91, C_92, G, sv, B)))))))))))))))))))
-- M_near
noncomputable def fM_near_52 : Option (Int32) := some 1
noncomputable def fM_near_27 (p0 : Int32) (p1 : Int32) : Option (Int32) := (if (p0 / 6) = (p1 / 6) then (if (p0 - p1) = 1 then fM_near_52 else (if (p1 - p0) = 1 then fM_near_52 else some 0)) else some 0)
noncomputable def fM_near (p0 : Int32) (p1 : Int32) : Option (Int32) := (if (p0 - p0 / 6 * 6) = (p1 - p1 / 6 * 6) then (if (p0 - p1) = 6 then fM_near_52 else (if (p1 - p0) = 6 then fM_near_52 else fM_near_27 p0 p1)) else fM_near_27 p0 p1)
-- M_thrown
noncomputable def fM_thrown_18 : Option (Int32) := some 1
noncomputable def fM_thrown (p0 : Int32) : Option (Int32) := (if p0 = (-9999001) then fM_thrown_18 else (if p0 = (-9999002) then fM_thrown_18 else (if p0 = (-9999003) then fM_thrown_18 else some 0)))
abbrev rmM_call : Room := ({ frames := 10, cells := 1, slots := 6, locals := 187 })
set_option maxHeartbeats 4000000 in
set_option maxRecDepth 100000 in
theorem kM_call (l : Launch) (hlt : l.stackTraces = false) (D : va_G) (cI cB cL : ClassId) (x0 : Nat) (t0 : Nat) (t1 : Nat) (h0 : Nat) (h1 : Nat) (s0 : Nat) (s1 : Nat) (v0 : Nat) (r0 : Nat) (r1 : Nat) (a0 : Nat) (a1 : Nat) (sz : Nat) (la : Int32) (cn : Int32) (us : Int32) (ch : Nat → Int32) (C : Nat → Int32) (G : Nat → Int32) (sv : Nat → Int32) (T : Nat → Int32) (B : Nat → Int32) (p1 : Int32) (p2 : Int32) (p3 : Int32) (p4 : Int32) (w : Int32) (la' : Int32) (cn' : Int32) (C' : Nat → Int32) (G' : Nat → Int32) (sv' : Nat → Int32) (B' : Nat → Int32) (hf : fM_call la cn us ch C G sv T B p1 p2 p3 p4 = some (w, la', cn', C', G', sv', B')) : Met l yL_call wsL_call rmM_call (mPc D (tyK cI cB cL) [.ref x0, .int p1, .int p2, .int p3, .int p4] sz [(x0, .inr (3, [.ref t0, .ref h0, .ref s0, .int la, .int cn, .ref v0, .ref r0, .ref a0])), (t0, .inr (2, [.ref t1, .int us])), (t1, .inl (cI, 120, .inl ch)), (h0, .inr (0, [.ref h1])), (h1, .inl (cI, 256, .inl C)), (s0, .inr (1, [.ref s1])), (s1, .inl (cI, 4096, .inl G)), (v0, .inl (cB, 2, .inl sv)), (r0, .inr (0, [.ref r1])), (r1, .inl (cI, 256, .inl T)), (a0, .inr (0, [.ref a1])), (a1, .inl (cI, 256, .inl B))]) (mQi D w [(x0, .inr (3, [.ref t0, .ref h0, .ref s0, .int la', .int cn', .ref v0, .ref r0, .ref a0])), (t0, .inr (2, [.ref t1, .int us])), (t1, .inl (cI, 120, .inl ch)), (h0, .inr (0, [.ref h1])), (h1, .inl (cI, 256, .inl C')), (s0, .inr (1, [.ref s1])), (s1, .inl (cI, 4096, .inl G')), (v0, .inl (cB, 2, .inl sv')), (r0, .inr (0, [.ref r1])), (r1, .inl (cI, 256, .inl T)), (a0, .inr (0, [.ref a1])), (a1, .inl (cI, 256, .inl B'))] (va_A [(x0, .inr (3, [.ref t0, .ref h0, .ref s0, .int la, .int cn, .ref v0, .ref r0, .ref a0])), (t0, .inr (2, [.ref t1, .int us])), (t1, .inl (cI, 120, .inl ch)), (h0, .inr (0, [.ref h1])), (h1, .inl (cI, 256, .inl C)), (s0, .inr (1, [.ref s1])), (s1, .inl (cI, 4096, .inl G)), (v0, .inl (cB, 2, .inl sv)), (r0, .inr (0, [.ref r1])), (r1, .inl (cI, 256, .inl T)), (a0, .inr (0, [.ref a1])), (a1, .inl (cI, 256, .inl B))] sz)) 1 6 (va_A [(x0, .inr (3, [.ref t0, .ref h0, .ref s0, .int la, .int cn, .ref v0, .ref r0, .ref a0])), (t0, .inr (2, [.ref t1, .int us])), (t1, .inl (cI, 120, .inl ch)), (h0, .inr (0, [.ref h1])), (h1, .inl (cI, 256, .inl C)), (s0, .inr (1, [.ref s1])), (s1, .inl (cI, 4096, .inl G)), (v0, .inl (cB, 2, .inl sv)), (r0, .inr (0, [.ref r1])), (r1, .inl (cI, 256, .inl T)), (a0, .inr (0, [.ref a1])), (a1, .inl (cI, 256, .inl B))] sz) := by
  refine m_of (Qf := mQi D w [(x0, .inr (3, [.ref t0, .ref h0, .ref s0, .int la', .int cn', .ref v0, .ref r0, .ref a0])), (t0, .inr (2, [.ref t1, .int us])), (t1, .inl (cI, 120, .inl ch)), (h0, .inr (0, [.ref h1])), (h1, .inl (cI, 256, .inl C')), (s0, .inr (1, [.ref s1])), (s1, .inl (cI, 4096, .inl G')), (v0, .inl (cB, 2, .inl sv')), (r0, .inr (0, [.ref r1])), (r1, .inl (cI, 256, .inl T)), (a0, .inr (0, [.ref a1])), (a1, .inl (cI, 256, .inl B'))]) (cc := cL_call) (maxL := 5) (ret := (some .int)) (by decide) rfl (Nat.le_of_ble_eq_true rfl) ?_
  intro p e s m args below meth c A ls hsz hx hb hr hml hown hts hlocks hP hK hD hS hA hE hin hl Q hQ
  subst hsz
  have hl : lv_has ls 5 [(0, .ref x0), (1, .int p1), (2, .int p2), (3, .int p3), (4, .int p4)] := hl
  have hown : s.vm.findClass RL = some m.cls := hown
  unfold fM_call at hf
  refine lv_iload_n hx hb dL_call_0 rfl (lv_at hl 1 rfl) ?_
  by_cases c_1 : p1 = 0
  · have hf := br_pos c_1 hf
    refine lv_tableIn (off := 83) (tgt := 84) hx hb dL_call_1 (by rw [c_1]; decide) (by rw [c_1]; decide) (by rw [c_1]; rfl) (by decide) ?_
    refine lv_aload_n hx hb dL_call_84 rfl (lv_at hl 0 rfl) ?_
    refine lv_iload_n hx hb dL_call_85 rfl (lv_at hl 2 rfl) ?_
    obtain ⟨q, h_2, hf⟩ := bd_some hf
    obtain ⟨r_3, rfl⟩ : ∃ z, z = q := ⟨_, rfl⟩
    try dsimp only at hf
    refine cl_im (ws := [(x0, .inr (3, [.ref t0, .ref h0, .ref s0, .int la, .int cn, .ref v0, .ref r0, .ref a0])), (t0, .inr (2, [.ref t1, .int us])), (t1, .inl (cI, 120, .inl ch)), (h0, .inr (0, [.ref h1])), (h1, .inl (cI, 256, .inl C)), (s0, .inr (1, [.ref s1])), (s1, .inl (cI, 4096, .inl G)), (v0, .inl (cB, 2, .inl sv)), (r0, .inr (0, [.ref r1])), (r1, .inl (cI, 256, .inl T)), (a0, .inr (0, [.ref a1])), (a1, .inl (cI, 256, .inl B))]) (wc := [(x0, .inr (3, [.ref t0, .ref h0, .ref s0, .int la, .int cn, .ref v0, .ref r0, .ref a0])), (t0, .inr (2, [.ref t1, .int us])), (t1, .inl (cI, 120, .inl ch)), (h0, .inr (0, [.ref h1])), (h1, .inl (cI, 256, .inl C)), (s0, .inr (1, [.ref s1])), (s1, .inl (cI, 4096, .inl G)), (v0, .inl (cB, 2, .inl sv)), (r0, .inr (0, [.ref r1])), (r1, .inl (cI, 256, .inl T)), (a0, .inr (0, [.ref a1])), (a1, .inl (cI, 256, .inl B))]) (wr := []) (w1 := [(x0, .inr (3, [.ref t0, .ref h0, .ref s0, .int la, .int cn, .ref v0, .ref r0, .ref a0])), (t0, .inr (2, [.ref t1, .int us])), (t1, .inl (cI, 120, .inl ch)), (h0, .inr (0, [.ref h1])), (h1, .inl (cI, 256, .inl C)), (s0, .inr (1, [.ref s1])), (s1, .inl (cI, 4096, .inl G)), (v0, .inl (cB, 2, .inl sv)), (r0, .inr (0, [.ref r1])), (r1, .inl (cI, 256, .inl T)), (a0, .inr (0, [.ref a1])), (a1, .inl (cI, 256, .inl B))]) (ws' := [(x0, .inr (3, [.ref t0, .ref h0, .ref s0, .int la, .int cn, .ref v0, .ref r0, .ref a0])), (t0, .inr (2, [.ref t1, .int us])), (t1, .inl (cI, 120, .inl ch)), (h0, .inr (0, [.ref h1])), (h1, .inl (cI, 256, .inl C)), (s0, .inr (1, [.ref s1])), (s1, .inl (cI, 4096, .inl G)), (v0, .inl (cB, 2, .inl sv)), (r0, .inr (0, [.ref r1])), (r1, .inl (cI, 256, .inl T)), (a0, .inr (0, [.ref a1])), (a1, .inl (cI, 256, .inl B))]) hP hD hS hA [0, 1, 2, 3, 4, 5, 6, 7, 8, 9, 10, 11] [] [0, 1, 2, 3, 4, 5, 6, 7, 8, 9, 10, 11] rfl rfl (by decide) (by decide) rfl (by decide) (vx_runSW (As := [.ref x0, .int p2]) (rest := []) ⟨hx, hb, hml, hown, hts⟩ (kM_tryAppend l hlt D cI cB cL x0 t0 t1 h0 h1 s0 s1 v0 r0 r1 a0 a1 _ la cn us ch C G sv T B p2 r_3 h_2) (vx_cwSW 2 hts gL_call_L_tryAppend rfl rfl rfl (by decide +kernel) ⟨Nat.le_of_ble_eq_true rfl, Nat.le_of_ble_eq_true rfl⟩) (pre_S hK hE hP hD hS hA [0, 1, 2, 3, 4, 5, 6, 7, 8, 9, 10, 11] rfl (by decide)) rfl rfl hl.1 rfl (lv_room (Nat.le_of_ble_eq_true rfl)) dL_call_86 ⟨by show 0 + 1 ≤ 1; omega, by show 0 + 6 ≤ 6; omega⟩) (fun H locs hP hD hS => ?_)
    refine W.widen (k := 1) (n := 6) (by omega) (by omega) ?_
    cases hf
    exact rt_ti (T := 1) (T6 := 6) hQ (by omega) (by omega) hx hb hr hlocks hP hD hS dL_call_89
  have hf := br_neg c_1 hf
  by_cases c_4 : p1 = 1
  · have hf := br_pos c_4 hf
    refine lv_tableIn (off := 89) (tgt := 90) hx hb dL_call_1 (by rw [c_4]; decide) (by rw [c_4]; decide) (by rw [c_4]; rfl) (by decide) ?_
    refine lv_aload_n hx hb dL_call_90 rfl (lv_at hl 0 rfl) ?_
    cases hf
  have hf := br_neg c_4 hf
  by_cases c_5 : p1 = 2
  · have hf := br_pos c_5 hf
    refine lv_tableIn (off := 94) (tgt := 95) hx hb dL_call_1 (by rw [c_5]; decide) (by rw [c_5]; decide) (by rw [c_5]; rfl) (by decide) ?_
    refine lv_aload_n hx hb dL_call_95 rfl (lv_at hl 0 rfl) ?_
    refine lv_iload_n hx hb dL_call_96 rfl (lv_at hl 2 rfl) ?_
    obtain ⟨q, h_6, hf⟩ := bd_some hf
    obtain ⟨r_7, rfl⟩ : ∃ z, z = q := ⟨_, rfl⟩
    try dsimp only at hf
    refine cl_im (ws := [(x0, .inr (3, [.ref t0, .ref h0, .ref s0, .int la, .int cn, .ref v0, .ref r0, .ref a0])), (t0, .inr (2, [.ref t1, .int us])), (t1, .inl (cI, 120, .inl ch)), (h0, .inr (0, [.ref h1])), (h1, .inl (cI, 256, .inl C)), (s0, .inr (1, [.ref s1])), (s1, .inl (cI, 4096, .inl G)), (v0, .inl (cB, 2, .inl sv)), (r0, .inr (0, [.ref r1])), (r1, .inl (cI, 256, .inl T)), (a0, .inr (0, [.ref a1])), (a1, .inl (cI, 256, .inl B))]) (wc := [(x0, .inr (3, [.ref t0, .ref h0, .ref s0, .int la, .int cn, .ref v0, .ref r0, .ref a0])), (t0, .inr (2, [.ref t1, .int us])), (t1, .inl (cI, 120, .inl ch)), (h0, .inr (0, [.ref h1])), (h1, .inl (cI, 256, .inl C)), (s0, .inr (1, [.ref s1])), (s1, .inl (cI, 4096, .inl G)), (v0, .inl (cB, 2, .inl sv)), (r0, .inr (0, [.ref r1])), (r1, .inl (cI, 256, .inl T)), (a0, .inr (0, [.ref a1])), (a1, .inl (cI, 256, .inl B))]) (wr := []) (w1 := [(x0, .inr (3, [.ref t0, .ref h0, .ref s0, .int la, .int cn, .ref v0, .ref r0, .ref a0])), (t0, .inr (2, [.ref t1, .int us])), (t1, .inl (cI, 120, .inl ch)), (h0, .inr (0, [.ref h1])), (h1, .inl (cI, 256, .inl C)), (s0, .inr (1, [.ref s1])), (s1, .inl (cI, 4096, .inl G)), (v0, .inl (cB, 2, .inl sv)), (r0, .inr (0, [.ref r1])), (r1, .inl (cI, 256, .inl T)), (a0, .inr (0, [.ref a1])), (a1, .inl (cI, 256, .inl B))]) (ws' := [(x0, .inr (3, [.ref t0, .ref h0, .ref s0, .int la, .int cn, .ref v0, .ref r0, .ref a0])), (t0, .inr (2, [.ref t1, .int us])), (t1, .inl (cI, 120, .inl ch)), (h0, .inr (0, [.ref h1])), (h1, .inl (cI, 256, .inl C)), (s0, .inr (1, [.ref s1])), (s1, .inl (cI, 4096, .inl G)), (v0, .inl (cB, 2, .inl sv)), (r0, .inr (0, [.ref r1])), (r1, .inl (cI, 256, .inl T)), (a0, .inr (0, [.ref a1])), (a1, .inl (cI, 256, .inl B))]) hP hD hS hA [0, 1, 2, 3, 4, 5, 6, 7, 8, 9, 10, 11] [] [0, 1, 2, 3, 4, 5, 6, 7, 8, 9, 10, 11] rfl rfl (by decide) (by decide) rfl (by decide) (vx_runSW (As := [.ref x0, .int p2]) (rest := []) ⟨hx, hb, hml, hown, hts⟩ (kM_tryAbout l hlt D cI cB cL x0 t0 t1 h0 h1 s0 s1 v0 r0 r1 a0 a1 _ la cn us ch C G sv T B p2 r_7 h_6) (vx_cwSW 2 hts gL_call_L_tryAbout rfl rfl rfl (by decide +kernel) ⟨Nat.le_of_ble_eq_true rfl, Nat.le_of_ble_eq_true rfl⟩) (pre_S hK hE hP hD hS hA [0, 1, 2, 3, 4, 5, 6, 7, 8, 9, 10, 11] rfl (by decide)) rfl rfl hl.1 rfl (lv_room (Nat.le_of_ble_eq_true rfl)) dL_call_97 ⟨by show 0 + 1 ≤ 1; omega, by show 0 + 6 ≤ 6; omega⟩) (fun H locs hP hD hS => ?_)
    refine W.widen (k := 1) (n := 6) (by omega) (by omega) ?_
    cases hf
    exact rt_ti (T := 1) (T6 := 6) hQ (by omega) (by omega) hx hb hr hlocks hP hD hS dL_call_100
  have hf := br_neg c_5 hf
  by_cases c_8 : p1 = 3
  · have hf := br_pos c_8 hf
    refine lv_tableIn (off := 100) (tgt := 101) hx hb dL_call_1 (by rw [c_8]; decide) (by rw [c_8]; decide) (by rw [c_8]; rfl) (by decide) ?_
    refine lv_aload_n hx hb dL_call_101 rfl (lv_at hl 0 rfl) ?_
    refine lv_iload_n hx hb dL_call_102 rfl (lv_at hl 2 rfl) ?_
    refine lv_iload_n hx hb dL_call_103 rfl (lv_at hl 3 rfl) ?_
    obtain ⟨q, h_9, hf⟩ := bd_some hf
    obtain ⟨r_10, rfl⟩ : ∃ z, z = q := ⟨_, rfl⟩
    try dsimp only at hf
    refine cl_im (ws := [(x0, .inr (3, [.ref t0, .ref h0, .ref s0, .int la, .int cn, .ref v0, .ref r0, .ref a0])), (t0, .inr (2, [.ref t1, .int us])), (t1, .inl (cI, 120, .inl ch)), (h0, .inr (0, [.ref h1])), (h1, .inl (cI, 256, .inl C)), (s0, .inr (1, [.ref s1])), (s1, .inl (cI, 4096, .inl G)), (v0, .inl (cB, 2, .inl sv)), (r0, .inr (0, [.ref r1])), (r1, .inl (cI, 256, .inl T)), (a0, .inr (0, [.ref a1])), (a1, .inl (cI, 256, .inl B))]) (wc := [(x0, .inr (3, [.ref t0, .ref h0, .ref s0, .int la, .int cn, .ref v0, .ref r0, .ref a0])), (t0, .inr (2, [.ref t1, .int us])), (t1, .inl (cI, 120, .inl ch)), (h0, .inr (0, [.ref h1])), (h1, .inl (cI, 256, .inl C)), (s0, .inr (1, [.ref s1])), (s1, .inl (cI, 4096, .inl G)), (v0, .inl (cB, 2, .inl sv)), (r0, .inr (0, [.ref r1])), (r1, .inl (cI, 256, .inl T)), (a0, .inr (0, [.ref a1])), (a1, .inl (cI, 256, .inl B))]) (wr := []) (w1 := [(x0, .inr (3, [.ref t0, .ref h0, .ref s0, .int la, .int cn, .ref v0, .ref r0, .ref a0])), (t0, .inr (2, [.ref t1, .int us])), (t1, .inl (cI, 120, .inl ch)), (h0, .inr (0, [.ref h1])), (h1, .inl (cI, 256, .inl C)), (s0, .inr (1, [.ref s1])), (s1, .inl (cI, 4096, .inl G)), (v0, .inl (cB, 2, .inl sv)), (r0, .inr (0, [.ref r1])), (r1, .inl (cI, 256, .inl T)), (a0, .inr (0, [.ref a1])), (a1, .inl (cI, 256, .inl B))]) (ws' := [(x0, .inr (3, [.ref t0, .ref h0, .ref s0, .int la, .int cn, .ref v0, .ref r0, .ref a0])), (t0, .inr (2, [.ref t1, .int us])), (t1, .inl (cI, 120, .inl ch)), (h0, .inr (0, [.ref h1])), (h1, .inl (cI, 256, .inl C)), (s0, .inr (1, [.ref s1])), (s1, .inl (cI, 4096, .inl G)), (v0, .inl (cB, 2, .inl sv)), (r0, .inr (0, [.ref r1])), (r1, .inl (cI, 256, .inl T)), (a0, .inr (0, [.ref a1])), (a1, .inl (cI, 256, .inl B))]) hP hD hS hA [0, 1, 2, 3, 4, 5, 6, 7, 8, 9, 10, 11] [] [0, 1, 2, 3, 4, 5, 6, 7, 8, 9, 10, 11] rfl rfl (by decide) (by decide) rfl (by decide) (vx_runSW (As := [.ref x0, .int p2, .int p3]) (rest := []) ⟨hx, hb, hml, hown, hts⟩ (kM_tryCat l hlt D cI cB cL x0 t0 t1 h0 h1 s0 s1 v0 r0 r1 a0 a1 _ la cn us ch C G sv T B p2 p3 r_10 h_9) (vx_cwSW 3 hts gL_call_L_tryCat rfl rfl rfl (by decide +kernel) ⟨Nat.le_of_ble_eq_true rfl, Nat.le_of_ble_eq_true rfl⟩) (pre_S hK hE hP hD hS hA [0, 1, 2, 3, 4, 5, 6, 7, 8, 9, 10, 11] rfl (by decide)) rfl rfl hl.1 rfl (lv_room (Nat.le_of_ble_eq_true rfl)) dL_call_104 ⟨by show 0 + 1 ≤ 1; omega, by show 0 + 6 ≤ 6; omega⟩) (fun H locs hP hD hS => ?_)
    refine W.widen (k := 1) (n := 6) (by omega) (by omega) ?_
    cases hf
    exact rt_ti (T := 1) (T6 := 6) hQ (by omega) (by omega) hx hb hr hlocks hP hD hS dL_call_107
  have hf := br_neg c_8 hf
  by_cases c_11 : p1 = 4
  · have hf := br_pos c_11 hf
    refine lv_tableIn (off := 107) (tgt := 108) hx hb dL_call_1 (by rw [c_11]; decide) (by rw [c_11]; decide) (by rw [c_11]; rfl) (by decide) ?_
    refine lv_aload_n hx hb dL_call_108 rfl (lv_at hl 0 rfl) ?_
    refine lv_iload_n hx hb dL_call_109 rfl (lv_at hl 2 rfl) ?_
    refine lv_iload_n hx hb dL_call_110 rfl (lv_at hl 3 rfl) ?_
    obtain ⟨q, h_12, hf⟩ := bd_some hf
    obtain ⟨r_13, rfl⟩ : ∃ z, z = q := ⟨_, rfl⟩
    try dsimp only at hf
    refine cl_im (ws := [(x0, .inr (3, [.ref t0, .ref h0, .ref s0, .int la, .int cn, .ref v0, .ref r0, .ref a0])), (t0, .inr (2, [.ref t1, .int us])), (t1, .inl (cI, 120, .inl ch)), (h0, .inr (0, [.ref h1])), (h1, .inl (cI, 256, .inl C)), (s0, .inr (1, [.ref s1])), (s1, .inl (cI, 4096, .inl G)), (v0, .inl (cB, 2, .inl sv)), (r0, .inr (0, [.ref r1])), (r1, .inl (cI, 256, .inl T)), (a0, .inr (0, [.ref a1])), (a1, .inl (cI, 256, .inl B))]) (wc := [(x0, .inr (3, [.ref t0, .ref h0, .ref s0, .int la, .int cn, .ref v0, .ref r0, .ref a0])), (t0, .inr (2, [.ref t1, .int us])), (t1, .inl (cI, 120, .inl ch)), (h0, .inr (0, [.ref h1])), (h1, .inl (cI, 256, .inl C)), (s0, .inr (1, [.ref s1])), (s1, .inl (cI, 4096, .inl G)), (v0, .inl (cB, 2, .inl sv)), (r0, .inr (0, [.ref r1])), (r1, .inl (cI, 256, .inl T)), (a0, .inr (0, [.ref a1])), (a1, .inl (cI, 256, .inl B))]) (wr := []) (w1 := [(x0, .inr (3, [.ref t0, .ref h0, .ref s0, .int la, .int cn, .ref v0, .ref r0, .ref a0])), (t0, .inr (2, [.ref t1, .int us])), (t1, .inl (cI, 120, .inl ch)), (h0, .inr (0, [.ref h1])), (h1, .inl (cI, 256, .inl C)), (s0, .inr (1, [.ref s1])), (s1, .inl (cI, 4096, .inl G)), (v0, .inl (cB, 2, .inl sv)), (r0, .inr (0, [.ref r1])), (r1, .inl (cI, 256, .inl T)), (a0, .inr (0, [.ref a1])), (a1, .inl (cI, 256, .inl B))]) (ws' := [(x0, .inr (3, [.ref t0, .ref h0, .ref s0, .int la, .int cn, .ref v0, .ref r0, .ref a0])), (t0, .inr (2, [.ref t1, .int us])), (t1, .inl (cI, 120, .inl ch)), (h0, .inr (0, [.ref h1])), (h1, .inl (cI, 256, .inl C)), (s0, .inr (1, [.ref s1])), (s1, .inl (cI, 4096, .inl G)), (v0, .inl (cB, 2, .inl sv)), (r0, .inr (0, [.ref r1])), (r1, .inl (cI, 256, .inl T)), (a0, .inr (0, [.ref a1])), (a1, .inl (cI, 256, .inl B))]) hP hD hS hA [0, 1, 2, 3, 4, 5, 6, 7, 8, 9, 10, 11] [] [0, 1, 2, 3, 4, 5, 6, 7, 8, 9, 10, 11] rfl rfl (by decide) (by decide) rfl (by decide) (vx_runSW (As := [.ref x0, .int p2, .int p3]) (rest := []) ⟨hx, hb, hml, hown, hts⟩ (kM_tryLies l hlt D cI cB cL x0 t0 t1 h0 h1 s0 s1 v0 r0 r1 a0 a1 _ la cn us ch C G sv T B p2 p3 r_13 h_12) (vx_cwSW 3 hts gL_call_L_tryLies rfl rfl rfl (by decide +kernel) ⟨Nat.le_of_ble_eq_true rfl, Nat.le_of_ble_eq_true rfl⟩) (pre_S hK hE hP hD hS hA [0, 1, 2, 3, 4, 5, 6, 7, 8, 9, 10, 11] rfl (by decide)) rfl rfl hl.1 rfl (lv_room (Nat.le_of_ble_eq_true rfl)) dL_call_111 ⟨by show 0 + 1 ≤ 1; omega, by show 0 + 6 ≤ 6; omega⟩) (fun H locs hP hD hS => ?_)
    refine W.widen (k := 1) (n := 6) (by omega) (by omega) ?_
    cases hf
    exact rt_ti (T := 1) (T6 := 6) hQ (by omega) (by omega) hx hb hr hlocks hP hD hS dL_call_114
  have hf := br_neg c_11 hf
  by_cases c_14 : p1 = 5
  · have hf := br_pos c_14 hf
    refine lv_tableIn (off := 114) (tgt := 115) hx hb dL_call_1 (by rw [c_14]; decide) (by rw [c_14]; decide) (by rw [c_14]; rfl) (by decide) ?_
    refine lv_aload_n hx hb dL_call_115 rfl (lv_at hl 0 rfl) ?_
    refine lv_iload_n hx hb dL_call_116 rfl (lv_at hl 2 rfl) ?_
    refine lv_iload_n hx hb dL_call_117 rfl (lv_at hl 3 rfl) ?_
    obtain ⟨q, h_15, hf⟩ := bd_some hf
    obtain ⟨r_16, rfl⟩ : ∃ z, z = q := ⟨_, rfl⟩
    try dsimp only at hf
    refine cl_im (ws := [(x0, .inr (3, [.ref t0, .ref h0, .ref s0, .int la, .int cn, .ref v0, .ref r0, .ref a0])), (t0, .inr (2, [.ref t1, .int us])), (t1, .inl (cI, 120, .inl ch)), (h0, .inr (0, [.ref h1])), (h1, .inl (cI, 256, .inl C)), (s0, .inr (1, [.ref s1])), (s1, .inl (cI, 4096, .inl G)), (v0, .inl (cB, 2, .inl sv)), (r0, .inr (0, [.ref r1])), (r1, .inl (cI, 256, .inl T)), (a0, .inr (0, [.ref a1])), (a1, .inl (cI, 256, .inl B))]) (wc := [(x0, .inr (3, [.ref t0, .ref h0, .ref s0, .int la, .int cn, .ref v0, .ref r0, .ref a0])), (t0, .inr (2, [.ref t1, .int us])), (t1, .inl (cI, 120, .inl ch)), (h0, .inr (0, [.ref h1])), (h1, .inl (cI, 256, .inl C)), (s0, .inr (1, [.ref s1])), (s1, .inl (cI, 4096, .inl G)), (v0, .inl (cB, 2, .inl sv)), (r0, .inr (0, [.ref r1])), (r1, .inl (cI, 256, .inl T)), (a0, .inr (0, [.ref a1])), (a1, .inl (cI, 256, .inl B))]) (wr := []) (w1 := [(x0, .inr (3, [.ref t0, .ref h0, .ref s0, .int la, .int cn, .ref v0, .ref r0, .ref a0])), (t0, .inr (2, [.ref t1, .int us])), (t1, .inl (cI, 120, .inl ch)), (h0, .inr (0, [.ref h1])), (h1, .inl (cI, 256, .inl C)), (s0, .inr (1, [.ref s1])), (s1, .inl (cI, 4096, .inl G)), (v0, .inl (cB, 2, .inl sv)), (r0, .inr (0, [.ref r1])), (r1, .inl (cI, 256, .inl T)), (a0, .inr (0, [.ref a1])), (a1, .inl (cI, 256, .inl B))]) (ws' := [(x0, .inr (3, [.ref t0, .ref h0, .ref s0, .int la, .int cn, .ref v0, .ref r0, .ref a0])), (t0, .inr (2, [.ref t1, .int us])), (t1, .inl (cI, 120, .inl ch)), (h0, .inr (0, [.ref h1])), (h1, .inl (cI, 256, .inl C)), (s0, .inr (1, [.ref s1])), (s1, .inl (cI, 4096, .inl G)), (v0, .inl (cB, 2, .inl sv)), (r0, .inr (0, [.ref r1])), (r1, .inl (cI, 256, .inl T)), (a0, .inr (0, [.ref a1])), (a1, .inl (cI, 256, .inl B))]) hP hD hS hA [0, 1, 2, 3, 4, 5, 6, 7, 8, 9, 10, 11] [] [0, 1, 2, 3, 4, 5, 6, 7, 8, 9, 10, 11] rfl rfl (by decide) (by decide) rfl (by decide) (vx_runSW (As := [.ref x0, .int p2, .int p3]) (rest := []) ⟨hx, hb, hml, hown, hts⟩ (kM_tryRoom l hlt D cI cB cL x0 t0 t1 h0 h1 s0 s1 v0 r0 r1 a0 a1 _ la cn us ch C G sv T B p2 p3 r_16 h_15) (vx_cwSW 3 hts gL_call_L_tryRoom rfl rfl rfl (by decide +kernel) ⟨Nat.le_of_ble_eq_true rfl, Nat.le_of_ble_eq_true rfl⟩) (pre_S hK hE hP hD hS hA [0, 1, 2, 3, 4, 5, 6, 7, 8, 9, 10, 11] rfl (by decide)) rfl rfl hl.1 rfl (lv_room (Nat.le_of_ble_eq_true rfl)) dL_call_118 ⟨by show 0 + 1 ≤ 1; omega, by show 0 + 6 ≤ 6; omega⟩) (fun H locs hP hD hS => ?_)
    refine W.widen (k := 1) (n := 6) (by omega) (by omega) ?_
    cases hf
    exact rt_ti (T := 1) (T6 := 6) hQ (by omega) (by omega) hx hb hr hlocks hP hD hS dL_call_121
  have hf := br_neg c_14 hf
  by_cases c_17 : p1 = 6
  · have hf := br_pos c_17 hf
    refine lv_tableIn (off := 121) (tgt := 122) hx hb dL_call_1 (by rw [c_17]; decide) (by rw [c_17]; decide) (by rw [c_17]; rfl) (by decide) ?_
    refine lv_aload_n hx hb dL_call_122 rfl (lv_at hl 0 rfl) ?_
    refine lv_iload_n hx hb dL_call_123 rfl (lv_at hl 2 rfl) ?_
    obtain ⟨q, h_18, hf⟩ := bd_some hf
    obtain ⟨r_19, rfl⟩ : ∃ z, z = q := ⟨_, rfl⟩
    try dsimp only at hf
    refine cl_im (ws := [(x0, .inr (3, [.ref t0, .ref h0, .ref s0, .int la, .int cn, .ref v0, .ref r0, .ref a0])), (t0, .inr (2, [.ref t1, .int us])), (t1, .inl (cI, 120, .inl ch)), (h0, .inr (0, [.ref h1])), (h1, .inl (cI, 256, .inl C)), (s0, .inr (1, [.ref s1])), (s1, .inl (cI, 4096, .inl G)), (v0, .inl (cB, 2, .inl sv)), (r0, .inr (0, [.ref r1])), (r1, .inl (cI, 256, .inl T)), (a0, .inr (0, [.ref a1])), (a1, .inl (cI, 256, .inl B))]) (wc := [(x0, .inr (3, [.ref t0, .ref h0, .ref s0, .int la, .int cn, .ref v0, .ref r0, .ref a0])), (t0, .inr (2, [.ref t1, .int us])), (t1, .inl (cI, 120, .inl ch)), (h0, .inr (0, [.ref h1])), (h1, .inl (cI, 256, .inl C)), (s0, .inr (1, [.ref s1])), (s1, .inl (cI, 4096, .inl G)), (v0, .inl (cB, 2, .inl sv)), (r0, .inr (0, [.ref r1])), (r1, .inl (cI, 256, .inl T)), (a0, .inr (0, [.ref a1])), (a1, .inl (cI, 256, .inl B))]) (wr := []) (w1 := [(x0, .inr (3, [.ref t0, .ref h0, .ref s0, .int la, .int cn, .ref v0, .ref r0, .ref a0])), (t0, .inr (2, [.ref t1, .int us])), (t1, .inl (cI, 120, .inl ch)), (h0, .inr (0, [.ref h1])), (h1, .inl (cI, 256, .inl C)), (s0, .inr (1, [.ref s1])), (s1, .inl (cI, 4096, .inl G)), (v0, .inl (cB, 2, .inl sv)), (r0, .inr (0, [.ref r1])), (r1, .inl (cI, 256, .inl T)), (a0, .inr (0, [.ref a1])), (a1, .inl (cI, 256, .inl B))]) (ws' := [(x0, .inr (3, [.ref t0, .ref h0, .ref s0, .int la, .int cn, .ref v0, .ref r0, .ref a0])), (t0, .inr (2, [.ref t1, .int us])), (t1, .inl (cI, 120, .inl ch)), (h0, .inr (0, [.ref h1])), (h1, .inl (cI, 256, .inl C)), (s0, .inr (1, [.ref s1])), (s1, .inl (cI, 4096, .inl G)), (v0, .inl (cB, 2, .inl sv)), (r0, .inr (0, [.ref r1])), (r1, .inl (cI, 256, .inl T)), (a0, .inr (0, [.ref a1])), (a1, .inl (cI, 256, .inl B))]) hP hD hS hA [0, 1, 2, 3, 4, 5, 6, 7, 8, 9, 10, 11] [] [0, 1, 2, 3, 4, 5, 6, 7, 8, 9, 10, 11] rfl rfl (by decide) (by decide) rfl (by decide) (vx_runSW (As := [.ref x0, .int p2]) (rest := []) ⟨hx, hb, hml, hown, hts⟩ (kM_tryNext l hlt D cI cB cL x0 t0 t1 h0 h1 s0 s1 v0 r0 r1 a0 a1 _ la cn us ch C G sv T B p2 r_19 h_18) (vx_cwSW 2 hts gL_call_L_tryNext rfl rfl rfl (by decide +kernel) ⟨Nat.le_of_ble_eq_true rfl, Nat.le_of_ble_eq_true rfl⟩) (pre_S hK hE hP hD hS hA [0, 1, 2, 3, 4, 5, 6, 7, 8, 9, 10, 11] rfl (by decide)) rfl rfl hl.1 rfl (lv_room (Nat.le_of_ble_eq_true rfl)) dL_call_124 ⟨by show 0 + 1 ≤ 1; omega, by show 0 + 6 ≤ 6; omega⟩) (fun H locs hP hD hS => ?_)
    refine W.widen (k := 1) (n := 6) (by omega) (by omega) ?_
    cases hf
    exact rt_ti (T := 1) (T6 := 6) hQ (by omega) (by omega) hx hb hr hlocks hP hD hS dL_call_127
  have hf := br_neg c_17 hf
  by_cases c_20 : p1 = 7
  · have hf := br_pos c_20 hf
    refine lv_tableIn (off := 127) (tgt := 128) hx hb dL_call_1 (by rw [c_20]; decide) (by rw [c_20]; decide) (by rw [c_20]; rfl) (by decide) ?_
    refine lv_aload_n hx hb dL_call_128 rfl (lv_at hl 0 rfl) ?_
    refine lv_iload_n hx hb dL_call_129 rfl (lv_at hl 2 rfl) ?_
    obtain ⟨q, h_21, hf⟩ := bd_some hf
    obtain ⟨r_22, rfl⟩ : ∃ z, z = q := ⟨_, rfl⟩
    try dsimp only at hf
    refine cl_im (ws := [(x0, .inr (3, [.ref t0, .ref h0, .ref s0, .int la, .int cn, .ref v0, .ref r0, .ref a0])), (t0, .inr (2, [.ref t1, .int us])), (t1, .inl (cI, 120, .inl ch)), (h0, .inr (0, [.ref h1])), (h1, .inl (cI, 256, .inl C)), (s0, .inr (1, [.ref s1])), (s1, .inl (cI, 4096, .inl G)), (v0, .inl (cB, 2, .inl sv)), (r0, .inr (0, [.ref r1])), (r1, .inl (cI, 256, .inl T)), (a0, .inr (0, [.ref a1])), (a1, .inl (cI, 256, .inl B))]) (wc := [(x0, .inr (3, [.ref t0, .ref h0, .ref s0, .int la, .int cn, .ref v0, .ref r0, .ref a0])), (t0, .inr (2, [.ref t1, .int us])), (t1, .inl (cI, 120, .inl ch)), (h0, .inr (0, [.ref h1])), (h1, .inl (cI, 256, .inl C)), (s0, .inr (1, [.ref s1])), (s1, .inl (cI, 4096, .inl G)), (v0, .inl (cB, 2, .inl sv)), (r0, .inr (0, [.ref r1])), (r1, .inl (cI, 256, .inl T)), (a0, .inr (0, [.ref a1])), (a1, .inl (cI, 256, .inl B))]) (wr := []) (w1 := [(x0, .inr (3, [.ref t0, .ref h0, .ref s0, .int la, .int cn, .ref v0, .ref r0, .ref a0])), (t0, .inr (2, [.ref t1, .int us])), (t1, .inl (cI, 120, .inl ch)), (h0, .inr (0, [.ref h1])), (h1, .inl (cI, 256, .inl C)), (s0, .inr (1, [.ref s1])), (s1, .inl (cI, 4096, .inl G)), (v0, .inl (cB, 2, .inl sv)), (r0, .inr (0, [.ref r1])), (r1, .inl (cI, 256, .inl T)), (a0, .inr (0, [.ref a1])), (a1, .inl (cI, 256, .inl B))]) (ws' := [(x0, .inr (3, [.ref t0, .ref h0, .ref s0, .int la, .int cn, .ref v0, .ref r0, .ref a0])), (t0, .inr (2, [.ref t1, .int us])), (t1, .inl (cI, 120, .inl ch)), (h0, .inr (0, [.ref h1])), (h1, .inl (cI, 256, .inl C)), (s0, .inr (1, [.ref s1])), (s1, .inl (cI, 4096, .inl G)), (v0, .inl (cB, 2, .inl sv)), (r0, .inr (0, [.ref r1])), (r1, .inl (cI, 256, .inl T)), (a0, .inr (0, [.ref a1])), (a1, .inl (cI, 256, .inl B))]) hP hD hS hA [0, 1, 2, 3, 4, 5, 6, 7, 8, 9, 10, 11] [] [0, 1, 2, 3, 4, 5, 6, 7, 8, 9, 10, 11] rfl rfl (by decide) (by decide) rfl (by decide) (vx_runSW (As := [.ref x0, .int p2]) (rest := []) ⟨hx, hb, hml, hown, hts⟩ (kM_tryWaits l hlt D cI cB cL x0 t0 t1 h0 h1 s0 s1 v0 r0 r1 a0 a1 _ la cn us ch C G sv T B p2 r_22 h_21) (vx_cwSW 2 hts gL_call_L_tryWaits rfl rfl rfl (by decide +kernel) ⟨Nat.le_of_ble_eq_true rfl, Nat.le_of_ble_eq_true rfl⟩) (pre_S hK hE hP hD hS hA [0, 1, 2, 3, 4, 5, 6, 7, 8, 9, 10, 11] rfl (by decide)) rfl rfl hl.1 rfl (lv_room (Nat.le_of_ble_eq_true rfl)) dL_call_130 ⟨by show 0 + 1 ≤ 1; omega, by show 0 + 6 ≤ 6; omega⟩) (fun H locs hP hD hS => ?_)
    refine W.widen (k := 1) (n := 6) (by omega) (by omega) ?_
    cases hf
    exact rt_ti (T := 1) (T6 := 6) hQ (by omega) (by omega) hx hb hr hlocks hP hD hS dL_call_133
  have hf := br_neg c_20 hf
  by_cases c_23 : p1 = 8
  · have hf := br_pos c_23 hf
    refine lv_tableIn (off := 133) (tgt := 134) hx hb dL_call_1 (by rw [c_23]; decide) (by rw [c_23]; decide) (by rw [c_23]; rfl) (by decide) ?_
    refine lv_aload_n hx hb dL_call_134 rfl (lv_at hl 0 rfl) ?_
    refine lv_iload_n hx hb dL_call_135 rfl (lv_at hl 2 rfl) ?_
    obtain ⟨q, h_24, hf⟩ := bd_some hf
    obtain ⟨r_25, rfl⟩ : ∃ z, z = q := ⟨_, rfl⟩
    try dsimp only at hf
    refine cl_im (ws := [(x0, .inr (3, [.ref t0, .ref h0, .ref s0, .int la, .int cn, .ref v0, .ref r0, .ref a0])), (t0, .inr (2, [.ref t1, .int us])), (t1, .inl (cI, 120, .inl ch)), (h0, .inr (0, [.ref h1])), (h1, .inl (cI, 256, .inl C)), (s0, .inr (1, [.ref s1])), (s1, .inl (cI, 4096, .inl G)), (v0, .inl (cB, 2, .inl sv)), (r0, .inr (0, [.ref r1])), (r1, .inl (cI, 256, .inl T)), (a0, .inr (0, [.ref a1])), (a1, .inl (cI, 256, .inl B))]) (wc := [(x0, .inr (3, [.ref t0, .ref h0, .ref s0, .int la, .int cn, .ref v0, .ref r0, .ref a0])), (t0, .inr (2, [.ref t1, .int us])), (t1, .inl (cI, 120, .inl ch)), (h0, .inr (0, [.ref h1])), (h1, .inl (cI, 256, .inl C)), (s0, .inr (1, [.ref s1])), (s1, .inl (cI, 4096, .inl G)), (v0, .inl (cB, 2, .inl sv)), (r0, .inr (0, [.ref r1])), (r1, .inl (cI, 256, .inl T)), (a0, .inr (0, [.ref a1])), (a1, .inl (cI, 256, .inl B))]) (wr := []) (w1 := [(x0, .inr (3, [.ref t0, .ref h0, .ref s0, .int la, .int cn, .ref v0, .ref r0, .ref a0])), (t0, .inr (2, [.ref t1, .int us])), (t1, .inl (cI, 120, .inl ch)), (h0, .inr (0, [.ref h1])), (h1, .inl (cI, 256, .inl C)), (s0, .inr (1, [.ref s1])), (s1, .inl (cI, 4096, .inl G)), (v0, .inl (cB, 2, .inl sv)), (r0, .inr (0, [.ref r1])), (r1, .inl (cI, 256, .inl T)), (a0, .inr (0, [.ref a1])), (a1, .inl (cI, 256, .inl B))]) (ws' := [(x0, .inr (3, [.ref t0, .ref h0, .ref s0, .int la, .int cn, .ref v0, .ref r0, .ref a0])), (t0, .inr (2, [.ref t1, .int us])), (t1, .inl (cI, 120, .inl ch)), (h0, .inr (0, [.ref h1])), (h1, .inl (cI, 256, .inl C)), (s0, .inr (1, [.ref s1])), (s1, .inl (cI, 4096, .inl G)), (v0, .inl (cB, 2, .inl sv)), (r0, .inr (0, [.ref r1])), (r1, .inl (cI, 256, .inl T)), (a0, .inr (0, [.ref a1])), (a1, .inl (cI, 256, .inl B))]) hP hD hS hA [0, 1, 2, 3, 4, 5, 6, 7, 8, 9, 10, 11] [] [0, 1, 2, 3, 4, 5, 6, 7, 8, 9, 10, 11] rfl rfl (by decide) (by decide) rfl (by decide) (vx_runSW (As := [.ref x0, .int p2]) (rest := []) ⟨hx, hb, hml, hown, hts⟩ (kM_tryRing l hlt D cI cB cL x0 t0 t1 h0 h1 s0 s1 v0 r0 r1 a0 a1 _ la cn us ch C G sv T B p2 r_25 h_24) (vx_cwSW 2 hts gL_call_L_tryRing rfl rfl rfl (by decide +kernel) ⟨Nat.le_of_ble_eq_true rfl, Nat.le_of_ble_eq_true rfl⟩) (pre_S hK hE hP hD hS hA [0, 1, 2, 3, 4, 5, 6, 7, 8, 9, 10, 11] rfl (by decide)) rfl rfl hl.1 rfl (lv_room (Nat.le_of_ble_eq_true rfl)) dL_call_136 ⟨by show 0 + 1 ≤ 1; omega, by show 0 + 6 ≤ 6; omega⟩) (fun H locs hP hD hS => ?_)
    refine W.widen (k := 1) (n := 6) (by omega) (by omega) ?_
    cases hf
    exact rt_ti (T := 1) (T6 := 6) hQ (by omega) (by omega) hx hb hr hlocks hP hD hS dL_call_139
  have hf := br_neg c_23 hf
  by_cases c_26 : p1 = 9
  · have hf := br_pos c_26 hf
    refine lv_tableIn (off := 139) (tgt := 140) hx hb dL_call_1 (by rw [c_26]; decide) (by rw [c_26]; decide) (by rw [c_26]; rfl) (by decide) ?_
    refine lv_aload_n hx hb dL_call_140 rfl (lv_at hl 0 rfl) ?_
    refine lv_iload_n hx hb dL_call_141 rfl (lv_at hl 2 rfl) ?_
    refine lv_iload_n hx hb dL_call_142 rfl (lv_at hl 3 rfl) ?_
    refine lv_iload hx hb dL_call_143 (lv_at hl 4 rfl) ?_
    obtain ⟨q, h_27, hf⟩ := bd_some hf
    obtain ⟨r_28, la_29, cn_30, C_31, G_32⟩ := q
    try dsimp only at hf
    refine cl_im (ws := [(x0, .inr (3, [.ref t0, .ref h0, .ref s0, .int la, .int cn, .ref v0, .ref r0, .ref a0])), (t0, .inr (2, [.ref t1, .int us])), (t1, .inl (cI, 120, .inl ch)), (h0, .inr (0, [.ref h1])), (h1, .inl (cI, 256, .inl C)), (s0, .inr (1, [.ref s1])), (s1, .inl (cI, 4096, .inl G)), (v0, .inl (cB, 2, .inl sv)), (r0, .inr (0, [.ref r1])), (r1, .inl (cI, 256, .inl T)), (a0, .inr (0, [.ref a1])), (a1, .inl (cI, 256, .inl B))]) (wc := [(x0, .inr (3, [.ref t0, .ref h0, .ref s0, .int la, .int cn, .ref v0, .ref r0, .ref a0])), (t0, .inr (2, [.ref t1, .int us])), (t1, .inl (cI, 120, .inl ch)), (h0, .inr (0, [.ref h1])), (h1, .inl (cI, 256, .inl C)), (s0, .inr (1, [.ref s1])), (s1, .inl (cI, 4096, .inl G)), (v0, .inl (cB, 2, .inl sv)), (r0, .inr (0, [.ref r1])), (r1, .inl (cI, 256, .inl T)), (a0, .inr (0, [.ref a1])), (a1, .inl (cI, 256, .inl B))]) (wr := []) (w1 := [(x0, .inr (3, [.ref t0, .ref h0, .ref s0, .int la_29, .int cn_30, .ref v0, .ref r0, .ref a0])), (t0, .inr (2, [.ref t1, .int us])), (t1, .inl (cI, 120, .inl ch)), (h0, .inr (0, [.ref h1])), (h1, .inl (cI, 256, .inl C_31)), (s0, .inr (1, [.ref s1])), (s1, .inl (cI, 4096, .inl G_32)), (v0, .inl (cB, 2, .inl sv)), (r0, .inr (0, [.ref r1])), (r1, .inl (cI, 256, .inl T)), (a0, .inr (0, [.ref a1])), (a1, .inl (cI, 256, .inl B))]) (ws' := [(x0, .inr (3, [.ref t0, .ref h0, .ref s0, .int la_29, .int cn_30, .ref v0, .ref r0, .ref a0])), (t0, .inr (2, [.ref t1, .int us])), (t1, .inl (cI, 120, .inl ch)), (h0, .inr (0, [.ref h1])), (h1, .inl (cI, 256, .inl C_31)), (s0, .inr (1, [.ref s1])), (s1, .inl (cI, 4096, .inl G_32)), (v0, .inl (cB, 2, .inl sv)), (r0, .inr (0, [.ref r1])), (r1, .inl (cI, 256, .inl T)), (a0, .inr (0, [.ref a1])), (a1, .inl (cI, 256, .inl B))]) hP hD hS hA [0, 1, 2, 3, 4, 5, 6, 7, 8, 9, 10, 11] [] [0, 1, 2, 3, 4, 5, 6, 7, 8, 9, 10, 11] rfl rfl (by decide) (by decide) rfl (by decide) (vx_runSW (As := [.ref x0, .int p2, .int p3, .int p4]) (rest := []) ⟨hx, hb, hml, hown, hts⟩ (kM_tryHatch l hlt D cI cB cL x0 t0 t1 h0 h1 s0 s1 v0 r0 r1 a0 a1 _ la cn us ch C G sv T B p2 p3 p4 r_28 la_29 cn_30 C_31 G_32 h_27) (vx_cwSW 4 hts gL_call_L_tryHatch rfl rfl rfl (by decide +kernel) ⟨Nat.le_of_ble_eq_true rfl, Nat.le_of_ble_eq_true rfl⟩) (pre_S hK hE hP hD hS hA [0, 1, 2, 3, 4, 5, 6, 7, 8, 9, 10, 11] rfl (by decide)) rfl rfl hl.1 rfl (lv_room (Nat.le_of_ble_eq_true rfl)) dL_call_145 ⟨by show 0 + 1 ≤ 1; omega, by show 0 + 6 ≤ 6; omega⟩) (fun H locs hP hD hS => ?_)
    refine W.widen (k := 1) (n := 6) (by omega) (by omega) ?_
    cases hf
    exact rt_ti (T := 1) (T6 := 6) hQ (by omega) (by omega) hx hb hr hlocks hP hD hS dL_call_148
  have hf := br_neg c_26 hf
  by_cases c_33 : p1 = 10
  · have hf := br_pos c_33 hf
    refine lv_tableIn (off := 148) (tgt := 149) hx hb dL_call_1 (by rw [c_33]; decide) (by rw [c_33]; decide) (by rw [c_33]; rfl) (by decide) ?_
    refine lv_aload_n hx hb dL_call_149 rfl (lv_at hl 0 rfl) ?_
    refine lv_iload_n hx hb dL_call_150 rfl (lv_at hl 2 rfl) ?_
    obtain ⟨q, h_34, hf⟩ := bd_some hf
    obtain ⟨r_35, la_36, cn_37, C_38, G_39⟩ := q
    try dsimp only at hf
    refine cl_im (ws := [(x0, .inr (3, [.ref t0, .ref h0, .ref s0, .int la, .int cn, .ref v0, .ref r0, .ref a0])), (t0, .inr (2, [.ref t1, .int us])), (t1, .inl (cI, 120, .inl ch)), (h0, .inr (0, [.ref h1])), (h1, .inl (cI, 256, .inl C)), (s0, .inr (1, [.ref s1])), (s1, .inl (cI, 4096, .inl G)), (v0, .inl (cB, 2, .inl sv)), (r0, .inr (0, [.ref r1])), (r1, .inl (cI, 256, .inl T)), (a0, .inr (0, [.ref a1])), (a1, .inl (cI, 256, .inl B))]) (wc := [(x0, .inr (3, [.ref t0, .ref h0, .ref s0, .int la, .int cn, .ref v0, .ref r0, .ref a0])), (t0, .inr (2, [.ref t1, .int us])), (t1, .inl (cI, 120, .inl ch)), (h0, .inr (0, [.ref h1])), (h1, .inl (cI, 256, .inl C)), (s0, .inr (1, [.ref s1])), (s1, .inl (cI, 4096, .inl G)), (v0, .inl (cB, 2, .inl sv)), (r0, .inr (0, [.ref r1])), (r1, .inl (cI, 256, .inl T)), (a0, .inr (0, [.ref a1])), (a1, .inl (cI, 256, .inl B))]) (wr := []) (w1 := [(x0, .inr (3, [.ref t0, .ref h0, .ref s0, .int la_36, .int cn_37, .ref v0, .ref r0, .ref a0])), (t0, .inr (2, [.ref t1, .int us])), (t1, .inl (cI, 120, .inl ch)), (h0, .inr (0, [.ref h1])), (h1, .inl (cI, 256, .inl C_38)), (s0, .inr (1, [.ref s1])), (s1, .inl (cI, 4096, .inl G_39)), (v0, .inl (cB, 2, .inl sv)), (r0, .inr (0, [.ref r1])), (r1, .inl (cI, 256, .inl T)), (a0, .inr (0, [.ref a1])), (a1, .inl (cI, 256, .inl B))]) (ws' := [(x0, .inr (3, [.ref t0, .ref h0, .ref s0, .int la_36, .int cn_37, .ref v0, .ref r0, .ref a0])), (t0, .inr (2, [.ref t1, .int us])), (t1, .inl (cI, 120, .inl ch)), (h0, .inr (0, [.ref h1])), (h1, .inl (cI, 256, .inl C_38)), (s0, .inr (1, [.ref s1])), (s1, .inl (cI, 4096, .inl G_39)), (v0, .inl (cB, 2, .inl sv)), (r0, .inr (0, [.ref r1])), (r1, .inl (cI, 256, .inl T)), (a0, .inr (0, [.ref a1])), (a1, .inl (cI, 256, .inl B))]) hP hD hS hA [0, 1, 2, 3, 4, 5, 6, 7, 8, 9, 10, 11] [] [0, 1, 2, 3, 4, 5, 6, 7, 8, 9, 10, 11] rfl rfl (by decide) (by decide) rfl (by decide) (vx_runSW (As := [.ref x0, .int p2]) (rest := []) ⟨hx, hb, hml, hown, hts⟩ (kM_tryTicks l hlt D cI cB cL x0 t0 t1 h0 h1 s0 s1 v0 r0 r1 a0 a1 _ la cn us ch C G sv T B p2 r_35 la_36 cn_37 C_38 G_39 h_34) (vx_cwSW 2 hts gL_call_L_tryTicks rfl rfl rfl (by decide +kernel) ⟨Nat.le_of_ble_eq_true rfl, Nat.le_of_ble_eq_true rfl⟩) (pre_S hK hE hP hD hS hA [0, 1, 2, 3, 4, 5, 6, 7, 8, 9, 10, 11] rfl (by decide)) rfl rfl hl.1 rfl (lv_room (Nat.le_of_ble_eq_true rfl)) dL_call_151 ⟨by show 0 + 1 ≤ 1; omega, by show 0 + 6 ≤ 6; omega⟩) (fun H locs hP hD hS => ?_)
    refine W.widen (k := 1) (n := 6) (by omega) (by omega) ?_
    cases hf
    exact rt_ti (T := 1) (T6 := 6) hQ (by omega) (by omega) hx hb hr hlocks hP hD hS dL_call_154
  have hf := br_neg c_33 hf
  by_cases c_40 : p1 = 11
  · have hf := br_pos c_40 hf
    refine lv_tableIn (off := 154) (tgt := 155) hx hb dL_call_1 (by rw [c_40]; decide) (by rw [c_40]; decide) (by rw [c_40]; rfl) (by decide) ?_
    refine lv_aload_n hx hb dL_call_155 rfl (lv_at hl 0 rfl) ?_
    refine lv_iload_n hx hb dL_call_156 rfl (lv_at hl 2 rfl) ?_
    obtain ⟨q, h_41, hf⟩ := bd_some hf
    obtain ⟨r_42, la_43, cn_44, C_45, G_46⟩ := q
    try dsimp only at hf
    refine cl_im (ws := [(x0, .inr (3, [.ref t0, .ref h0, .ref s0, .int la, .int cn, .ref v0, .ref r0, .ref a0])), (t0, .inr (2, [.ref t1, .int us])), (t1, .inl (cI, 120, .inl ch)), (h0, .inr (0, [.ref h1])), (h1, .inl (cI, 256, .inl C)), (s0, .inr (1, [.ref s1])), (s1, .inl (cI, 4096, .inl G)), (v0, .inl (cB, 2, .inl sv)), (r0, .inr (0, [.ref r1])), (r1, .inl (cI, 256, .inl T)), (a0, .inr (0, [.ref a1])), (a1, .inl (cI, 256, .inl B))]) (wc := [(x0, .inr (3, [.ref t0, .ref h0, .ref s0, .int la, .int cn, .ref v0, .ref r0, .ref a0])), (t0, .inr (2, [.ref t1, .int us])), (t1, .inl (cI, 120, .inl ch)), (h0, .inr (0, [.ref h1])), (h1, .inl (cI, 256, .inl C)), (s0, .inr (1, [.ref s1])), (s1, .inl (cI, 4096, .inl G)), (v0, .inl (cB, 2, .inl sv)), (r0, .inr (0, [.ref r1])), (r1, .inl (cI, 256, .inl T)), (a0, .inr (0, [.ref a1])), (a1, .inl (cI, 256, .inl B))]) (wr := []) (w1 := [(x0, .inr (3, [.ref t0, .ref h0, .ref s0, .int la_43, .int cn_44, .ref v0, .ref r0, .ref a0])), (t0, .inr (2, [.ref t1, .int us])), (t1, .inl (cI, 120, .inl ch)), (h0, .inr (0, [.ref h1])), (h1, .inl (cI, 256, .inl C_45)), (s0, .inr (1, [.ref s1])), (s1, .inl (cI, 4096, .inl G_46)), (v0, .inl (cB, 2, .inl sv)), (r0, .inr (0, [.ref r1])), (r1, .inl (cI, 256, .inl T)), (a0, .inr (0, [.ref a1])), (a1, .inl (cI, 256, .inl B))]) (ws' := [(x0, .inr (3, [.ref t0, .ref h0, .ref s0, .int la_43, .int cn_44, .ref v0, .ref r0, .ref a0])), (t0, .inr (2, [.ref t1, .int us])), (t1, .inl (cI, 120, .inl ch)), (h0, .inr (0, [.ref h1])), (h1, .inl (cI, 256, .inl C_45)), (s0, .inr (1, [.ref s1])), (s1, .inl (cI, 4096, .inl G_46)), (v0, .inl (cB, 2, .inl sv)), (r0, .inr (0, [.ref r1])), (r1, .inl (cI, 256, .inl T)), (a0, .inr (0, [.ref a1])), (a1, .inl (cI, 256, .inl B))]) hP hD hS hA [0, 1, 2, 3, 4, 5, 6, 7, 8, 9, 10, 11] [] [0, 1, 2, 3, 4, 5, 6, 7, 8, 9, 10, 11] rfl rfl (by decide) (by decide) rfl (by decide) (vx_runSW (As := [.ref x0, .int p2]) (rest := []) ⟨hx, hb, hml, hown, hts⟩ (kM_tryRule l hlt D cI cB cL x0 t0 t1 h0 h1 s0 s1 v0 r0 r1 a0 a1 _ la cn us ch C G sv T B p2 r_42 la_43 cn_44 C_45 G_46 h_41) (vx_cwSW 2 hts gL_call_L_tryRule rfl rfl rfl (by decide +kernel) ⟨Nat.le_of_ble_eq_true rfl, Nat.le_of_ble_eq_true rfl⟩) (pre_S hK hE hP hD hS hA [0, 1, 2, 3, 4, 5, 6, 7, 8, 9, 10, 11] rfl (by decide)) rfl rfl hl.1 rfl (lv_room (Nat.le_of_ble_eq_true rfl)) dL_call_157 ⟨by show 0 + 1 ≤ 1; omega, by show 0 + 6 ≤ 6; omega⟩) (fun H locs hP hD hS => ?_)
    refine W.widen (k := 1) (n := 6) (by omega) (by omega) ?_
    cases hf
    exact rt_ti (T := 1) (T6 := 6) hQ (by omega) (by omega) hx hb hr hlocks hP hD hS dL_call_160
  have hf := br_neg c_40 hf
  by_cases c_47 : p1 = 12
  · have hf := br_pos c_47 hf
    refine lv_tableIn (off := 160) (tgt := 161) hx hb dL_call_1 (by rw [c_47]; decide) (by rw [c_47]; decide) (by rw [c_47]; rfl) (by decide) ?_
    refine lv_aload_n hx hb dL_call_161 rfl (lv_at hl 0 rfl) ?_
    refine lv_iload_n hx hb dL_call_162 rfl (lv_at hl 2 rfl) ?_
    obtain ⟨q, h_48, hf⟩ := bd_some hf
    obtain ⟨r_49, la_50, cn_51, C_52, G_53⟩ := q
    try dsimp only at hf
    refine cl_im (ws := [(x0, .inr (3, [.ref t0, .ref h0, .ref s0, .int la, .int cn, .ref v0, .ref r0, .ref a0])), (t0, .inr (2, [.ref t1, .int us])), (t1, .inl (cI, 120, .inl ch)), (h0, .inr (0, [.ref h1])), (h1, .inl (cI, 256, .inl C)), (s0, .inr (1, [.ref s1])), (s1, .inl (cI, 4096, .inl G)), (v0, .inl (cB, 2, .inl sv)), (r0, .inr (0, [.ref r1])), (r1, .inl (cI, 256, .inl T)), (a0, .inr (0, [.ref a1])), (a1, .inl (cI, 256, .inl B))]) (wc := [(x0, .inr (3, [.ref t0, .ref h0, .ref s0, .int la, .int cn, .ref v0, .ref r0, .ref a0])), (t0, .inr (2, [.ref t1, .int us])), (t1, .inl (cI, 120, .inl ch)), (h0, .inr (0, [.ref h1])), (h1, .inl (cI, 256, .inl C)), (s0, .inr (1, [.ref s1])), (s1, .inl (cI, 4096, .inl G)), (v0, .inl (cB, 2, .inl sv)), (r0, .inr (0, [.ref r1])), (r1, .inl (cI, 256, .inl T)), (a0, .inr (0, [.ref a1])), (a1, .inl (cI, 256, .inl B))]) (wr := []) (w1 := [(x0, .inr (3, [.ref t0, .ref h0, .ref s0, .int la_50, .int cn_51, .ref v0, .ref r0, .ref a0])), (t0, .inr (2, [.ref t1, .int us])), (t1, .inl (cI, 120, .inl ch)), (h0, .inr (0, [.ref h1])), (h1, .inl (cI, 256, .inl C_52)), (s0, .inr (1, [.ref s1])), (s1, .inl (cI, 4096, .inl G_53)), (v0, .inl (cB, 2, .inl sv)), (r0, .inr (0, [.ref r1])), (r1, .inl (cI, 256, .inl T)), (a0, .inr (0, [.ref a1])), (a1, .inl (cI, 256, .inl B))]) (ws' := [(x0, .inr (3, [.ref t0, .ref h0, .ref s0, .int la_50, .int cn_51, .ref v0, .ref r0, .ref a0])), (t0, .inr (2, [.ref t1, .int us])), (t1, .inl (cI, 120, .inl ch)), (h0, .inr (0, [.ref h1])), (h1, .inl (cI, 256, .inl C_52)), (s0, .inr (1, [.ref s1])), (s1, .inl (cI, 4096, .inl G_53)), (v0, .inl (cB, 2, .inl sv)), (r0, .inr (0, [.ref r1])), (r1, .inl (cI, 256, .inl T)), (a0, .inr (0, [.ref a1])), (a1, .inl (cI, 256, .inl B))]) hP hD hS hA [0, 1, 2, 3, 4, 5, 6, 7, 8, 9, 10, 11] [] [0, 1, 2, 3, 4, 5, 6, 7, 8, 9, 10, 11] rfl rfl (by decide) (by decide) rfl (by decide) (vx_runSW (As := [.ref x0, .int p2]) (rest := []) ⟨hx, hb, hml, hown, hts⟩ (kM_tryPull l hlt D cI cB cL x0 t0 t1 h0 h1 s0 s1 v0 r0 r1 a0 a1 _ la cn us ch C G sv T B p2 r_49 la_50 cn_51 C_52 G_53 h_48) (vx_cwSW 2 hts gL_call_L_tryPull rfl rfl rfl (by decide +kernel) ⟨Nat.le_of_ble_eq_true rfl, Nat.le_of_ble_eq_true rfl⟩) (pre_S hK hE hP hD hS hA [0, 1, 2, 3, 4, 5, 6, 7, 8, 9, 10, 11] rfl (by decide)) rfl rfl hl.1 rfl (lv_room (Nat.le_of_ble_eq_true rfl)) dL_call_163 ⟨by show 0 + 1 ≤ 1; omega, by show 0 + 6 ≤ 6; omega⟩) (fun H locs hP hD hS => ?_)
    refine W.widen (k := 1) (n := 6) (by omega) (by omega) ?_
    cases hf
    exact rt_ti (T := 1) (T6 := 6) hQ (by omega) (by omega) hx hb hr hlocks hP hD hS dL_call_166
  have hf := br_neg c_47 hf
  by_cases c_54 : p1 = 13
  · have hf := br_pos c_54 hf
    refine lv_tableIn (off := 166) (tgt := 167) hx hb dL_call_1 (by rw [c_54]; decide) (by rw [c_54]; decide) (by rw [c_54]; rfl) (by decide) ?_
    refine lv_aload_n hx hb dL_call_167 rfl (lv_at hl 0 rfl) ?_
    obtain ⟨q, h_55, hf⟩ := bd_some hf
    obtain ⟨r_56, la_57, cn_58, C_59⟩ := q
    try dsimp only at hf
    refine cl_im (ws := [(x0, .inr (3, [.ref t0, .ref h0, .ref s0, .int la, .int cn, .ref v0, .ref r0, .ref a0])), (t0, .inr (2, [.ref t1, .int us])), (t1, .inl (cI, 120, .inl ch)), (h0, .inr (0, [.ref h1])), (h1, .inl (cI, 256, .inl C)), (s0, .inr (1, [.ref s1])), (s1, .inl (cI, 4096, .inl G)), (v0, .inl (cB, 2, .inl sv)), (r0, .inr (0, [.ref r1])), (r1, .inl (cI, 256, .inl T)), (a0, .inr (0, [.ref a1])), (a1, .inl (cI, 256, .inl B))]) (wc := [(x0, .inr (3, [.ref t0, .ref h0, .ref s0, .int la, .int cn, .ref v0, .ref r0, .ref a0])), (t0, .inr (2, [.ref t1, .int us])), (t1, .inl (cI, 120, .inl ch)), (h0, .inr (0, [.ref h1])), (h1, .inl (cI, 256, .inl C)), (s0, .inr (1, [.ref s1])), (s1, .inl (cI, 4096, .inl G)), (v0, .inl (cB, 2, .inl sv)), (r0, .inr (0, [.ref r1])), (r1, .inl (cI, 256, .inl T)), (a0, .inr (0, [.ref a1])), (a1, .inl (cI, 256, .inl B))]) (wr := []) (w1 := [(x0, .inr (3, [.ref t0, .ref h0, .ref s0, .int la_57, .int cn_58, .ref v0, .ref r0, .ref a0])), (t0, .inr (2, [.ref t1, .int us])), (t1, .inl (cI, 120, .inl ch)), (h0, .inr (0, [.ref h1])), (h1, .inl (cI, 256, .inl C_59)), (s0, .inr (1, [.ref s1])), (s1, .inl (cI, 4096, .inl G)), (v0, .inl (cB, 2, .inl sv)), (r0, .inr (0, [.ref r1])), (r1, .inl (cI, 256, .inl T)), (a0, .inr (0, [.ref a1])), (a1, .inl (cI, 256, .inl B))]) (ws' := [(x0, .inr (3, [.ref t0, .ref h0, .ref s0, .int la_57, .int cn_58, .ref v0, .ref r0, .ref a0])), (t0, .inr (2, [.ref t1, .int us])), (t1, .inl (cI, 120, .inl ch)), (h0, .inr (0, [.ref h1])), (h1, .inl (cI, 256, .inl C_59)), (s0, .inr (1, [.ref s1])), (s1, .inl (cI, 4096, .inl G)), (v0, .inl (cB, 2, .inl sv)), (r0, .inr (0, [.ref r1])), (r1, .inl (cI, 256, .inl T)), (a0, .inr (0, [.ref a1])), (a1, .inl (cI, 256, .inl B))]) hP hD hS hA [0, 1, 2, 3, 4, 5, 6, 7, 8, 9, 10, 11] [] [0, 1, 2, 3, 4, 5, 6, 7, 8, 9, 10, 11] rfl rfl (by decide) (by decide) rfl (by decide) (vx_runSW (As := [.ref x0]) (rest := []) ⟨hx, hb, hml, hown, hts⟩ (kM_tryUndo l hlt D cI cB cL x0 t0 t1 h0 h1 s0 s1 v0 r0 r1 a0 a1 _ la cn us ch C G sv T B r_56 la_57 cn_58 C_59 h_55) (vx_cwSW 1 hts gL_call_L_tryUndo rfl rfl rfl (by decide +kernel) ⟨Nat.le_of_ble_eq_true rfl, Nat.le_of_ble_eq_true rfl⟩) (pre_S hK hE hP hD hS hA [0, 1, 2, 3, 4, 5, 6, 7, 8, 9, 10, 11] rfl (by decide)) rfl rfl hl.1 rfl (lv_room (Nat.le_of_ble_eq_true rfl)) dL_call_168 ⟨by show 0 + 1 ≤ 1; omega, by show 0 + 6 ≤ 6; omega⟩) (fun H locs hP hD hS => ?_)
    refine W.widen (k := 1) (n := 6) (by omega) (by omega) ?_
    cases hf
    exact rt_ti (T := 1) (T6 := 6) hQ (by omega) (by omega) hx hb hr hlocks hP hD hS dL_call_171
  have hf := br_neg c_54 hf
  by_cases c_60 : p1 = 14
  · have hf := br_pos c_60 hf
    refine lv_tableIn (off := 171) (tgt := 172) hx hb dL_call_1 (by rw [c_60]; decide) (by rw [c_60]; decide) (by rw [c_60]; rfl) (by decide) ?_
    refine lv_aload_n hx hb dL_call_172 rfl (lv_at hl 0 rfl) ?_
    refine lv_iload_n hx hb dL_call_173 rfl (lv_at hl 2 rfl) ?_
    obtain ⟨q, h_61, hf⟩ := bd_some hf
    obtain ⟨r_62, B_63⟩ := q
    try dsimp only at hf
    refine cl_im (ws := [(x0, .inr (3, [.ref t0, .ref h0, .ref s0, .int la, .int cn, .ref v0, .ref r0, .ref a0])), (t0, .inr (2, [.ref t1, .int us])), (t1, .inl (cI, 120, .inl ch)), (h0, .inr (0, [.ref h1])), (h1, .inl (cI, 256, .inl C)), (s0, .inr (1, [.ref s1])), (s1, .inl (cI, 4096, .inl G)), (v0, .inl (cB, 2, .inl sv)), (r0, .inr (0, [.ref r1])), (r1, .inl (cI, 256, .inl T)), (a0, .inr (0, [.ref a1])), (a1, .inl (cI, 256, .inl B))]) (wc := [(x0, .inr (3, [.ref t0, .ref h0, .ref s0, .int la, .int cn, .ref v0, .ref r0, .ref a0])), (t0, .inr (2, [.ref t1, .int us])), (t1, .inl (cI, 120, .inl ch)), (h0, .inr (0, [.ref h1])), (h1, .inl (cI, 256, .inl C)), (s0, .inr (1, [.ref s1])), (s1, .inl (cI, 4096, .inl G)), (v0, .inl (cB, 2, .inl sv)), (r0, .inr (0, [.ref r1])), (r1, .inl (cI, 256, .inl T)), (a0, .inr (0, [.ref a1])), (a1, .inl (cI, 256, .inl B))]) (wr := []) (w1 := [(x0, .inr (3, [.ref t0, .ref h0, .ref s0, .int la, .int cn, .ref v0, .ref r0, .ref a0])), (t0, .inr (2, [.ref t1, .int us])), (t1, .inl (cI, 120, .inl ch)), (h0, .inr (0, [.ref h1])), (h1, .inl (cI, 256, .inl C)), (s0, .inr (1, [.ref s1])), (s1, .inl (cI, 4096, .inl G)), (v0, .inl (cB, 2, .inl sv)), (r0, .inr (0, [.ref r1])), (r1, .inl (cI, 256, .inl T)), (a0, .inr (0, [.ref a1])), (a1, .inl (cI, 256, .inl B_63))]) (ws' := [(x0, .inr (3, [.ref t0, .ref h0, .ref s0, .int la, .int cn, .ref v0, .ref r0, .ref a0])), (t0, .inr (2, [.ref t1, .int us])), (t1, .inl (cI, 120, .inl ch)), (h0, .inr (0, [.ref h1])), (h1, .inl (cI, 256, .inl C)), (s0, .inr (1, [.ref s1])), (s1, .inl (cI, 4096, .inl G)), (v0, .inl (cB, 2, .inl sv)), (r0, .inr (0, [.ref r1])), (r1, .inl (cI, 256, .inl T)), (a0, .inr (0, [.ref a1])), (a1, .inl (cI, 256, .inl B_63))]) hP hD hS hA [0, 1, 2, 3, 4, 5, 6, 7, 8, 9, 10, 11] [] [0, 1, 2, 3, 4, 5, 6, 7, 8, 9, 10, 11] rfl rfl (by decide) (by decide) rfl (by decide) (vx_runSW (As := [.ref x0, .int p2]) (rest := []) ⟨hx, hb, hml, hown, hts⟩ (kM_tryGone l hlt D cI cB cL x0 t0 t1 h0 h1 s0 s1 v0 r0 r1 a0 a1 _ la cn us ch C G sv T B p2 r_62 B_63 h_61) (vx_cwSW 2 hts gL_call_L_tryGone rfl rfl rfl (by decide +kernel) ⟨Nat.le_of_ble_eq_true rfl, Nat.le_of_ble_eq_true rfl⟩) (pre_S hK hE hP hD hS hA [0, 1, 2, 3, 4, 5, 6, 7, 8, 9, 10, 11] rfl (by decide)) rfl rfl hl.1 rfl (lv_room (Nat.le_of_ble_eq_true rfl)) dL_call_174 ⟨by show 0 + 1 ≤ 1; omega, by show 0 + 6 ≤ 6; omega⟩) (fun H locs hP hD hS => ?_)
    refine W.widen (k := 1) (n := 6) (by omega) (by omega) ?_
    cases hf
    exact rt_ti (T := 1) (T6 := 6) hQ (by omega) (by omega) hx hb hr hlocks hP hD hS dL_call_177
  have hf := br_neg c_60 hf
  by_cases c_64 : p1 = 15
  · have hf := br_pos c_64 hf
    refine lv_tableIn (off := 177) (tgt := 178) hx hb dL_call_1 (by rw [c_64]; decide) (by rw [c_64]; decide) (by rw [c_64]; rfl) (by decide) ?_
    refine lv_aload_n hx hb dL_call_178 rfl (lv_at hl 0 rfl) ?_
    refine lv_iload_n hx hb dL_call_179 rfl (lv_at hl 2 rfl) ?_
    refine lv_iload_n hx hb dL_call_180 rfl (lv_at hl 3 rfl) ?_
    refine lv_iload hx hb dL_call_181 (lv_at hl 4 rfl) ?_
    obtain ⟨q, h_65, hf⟩ := bd_some hf
    obtain ⟨r_66, rfl⟩ : ∃ z, z = q := ⟨_, rfl⟩
    try dsimp only at hf
    refine cl_im (ws := [(x0, .inr (3, [.ref t0, .ref h0, .ref s0, .int la, .int cn, .ref v0, .ref r0, .ref a0])), (t0, .inr (2, [.ref t1, .int us])), (t1, .inl (cI, 120, .inl ch)), (h0, .inr (0, [.ref h1])), (h1, .inl (cI, 256, .inl C)), (s0, .inr (1, [.ref s1])), (s1, .inl (cI, 4096, .inl G)), (v0, .inl (cB, 2, .inl sv)), (r0, .inr (0, [.ref r1])), (r1, .inl (cI, 256, .inl T)), (a0, .inr (0, [.ref a1])), (a1, .inl (cI, 256, .inl B))]) (wc := [(x0, .inr (3, [.ref t0, .ref h0, .ref s0, .int la, .int cn, .ref v0, .ref r0, .ref a0])), (t0, .inr (2, [.ref t1, .int us])), (t1, .inl (cI, 120, .inl ch)), (h0, .inr (0, [.ref h1])), (h1, .inl (cI, 256, .inl C)), (s0, .inr (1, [.ref s1])), (s1, .inl (cI, 4096, .inl G)), (v0, .inl (cB, 2, .inl sv)), (r0, .inr (0, [.ref r1])), (r1, .inl (cI, 256, .inl T)), (a0, .inr (0, [.ref a1])), (a1, .inl (cI, 256, .inl B))]) (wr := []) (w1 := [(x0, .inr (3, [.ref t0, .ref h0, .ref s0, .int la, .int cn, .ref v0, .ref r0, .ref a0])), (t0, .inr (2, [.ref t1, .int us])), (t1, .inl (cI, 120, .inl ch)), (h0, .inr (0, [.ref h1])), (h1, .inl (cI, 256, .inl C)), (s0, .inr (1, [.ref s1])), (s1, .inl (cI, 4096, .inl G)), (v0, .inl (cB, 2, .inl sv)), (r0, .inr (0, [.ref r1])), (r1, .inl (cI, 256, .inl T)), (a0, .inr (0, [.ref a1])), (a1, .inl (cI, 256, .inl B))]) (ws' := [(x0, .inr (3, [.ref t0, .ref h0, .ref s0, .int la, .int cn, .ref v0, .ref r0, .ref a0])), (t0, .inr (2, [.ref t1, .int us])), (t1, .inl (cI, 120, .inl ch)), (h0, .inr (0, [.ref h1])), (h1, .inl (cI, 256, .inl C)), (s0, .inr (1, [.ref s1])), (s1, .inl (cI, 4096, .inl G)), (v0, .inl (cB, 2, .inl sv)), (r0, .inr (0, [.ref r1])), (r1, .inl (cI, 256, .inl T)), (a0, .inr (0, [.ref a1])), (a1, .inl (cI, 256, .inl B))]) hP hD hS hA [0, 1, 2, 3, 4, 5, 6, 7, 8, 9, 10, 11] [] [0, 1, 2, 3, 4, 5, 6, 7, 8, 9, 10, 11] rfl rfl (by decide) (by decide) rfl (by decide) (vx_runSW (As := [.ref x0, .int p2, .int p3, .int p4]) (rest := []) ⟨hx, hb, hml, hown, hts⟩ (kM_tryIf l hlt D cI cB cL x0 t0 t1 h0 h1 s0 s1 v0 r0 r1 a0 a1 _ la cn us ch C G sv T B p2 p3 p4 r_66 h_65) (vx_cwSW 4 hts gL_call_L_tryIf rfl rfl rfl (by decide +kernel) ⟨Nat.le_of_ble_eq_true rfl, Nat.le_of_ble_eq_true rfl⟩) (pre_S hK hE hP hD hS hA [0, 1, 2, 3, 4, 5, 6, 7, 8, 9, 10, 11] rfl (by decide)) rfl rfl hl.1 rfl (lv_room (Nat.le_of_ble_eq_true rfl)) dL_call_183 ⟨by show 0 + 1 ≤ 1; omega, by show 0 + 6 ≤ 6; omega⟩) (fun H locs hP hD hS => ?_)
    refine W.widen (k := 1) (n := 6) (by omega) (by omega) ?_
    cases hf
    exact rt_ti (T := 1) (T6 := 6) hQ (by omega) (by omega) hx hb hr hlocks hP hD hS dL_call_186
  have hf := br_neg c_64 hf
  by_cases c_67 : p1 = 16
  · have hf := br_pos c_67 hf
    refine lv_tableIn (off := 186) (tgt := 187) hx hb dL_call_1 (by rw [c_67]; decide) (by rw [c_67]; decide) (by rw [c_67]; rfl) (by decide) ?_
    refine lv_aload_n hx hb dL_call_187 rfl (lv_at hl 0 rfl) ?_
    refine lv_iload_n hx hb dL_call_188 rfl (lv_at hl 2 rfl) ?_
    obtain ⟨q, h_68, hf⟩ := bd_some hf
    obtain ⟨r_69, G_70, sv_71⟩ := q
    try dsimp only at hf
    refine cl_im (ws := [(x0, .inr (3, [.ref t0, .ref h0, .ref s0, .int la, .int cn, .ref v0, .ref r0, .ref a0])), (t0, .inr (2, [.ref t1, .int us])), (t1, .inl (cI, 120, .inl ch)), (h0, .inr (0, [.ref h1])), (h1, .inl (cI, 256, .inl C)), (s0, .inr (1, [.ref s1])), (s1, .inl (cI, 4096, .inl G)), (v0, .inl (cB, 2, .inl sv)), (r0, .inr (0, [.ref r1])), (r1, .inl (cI, 256, .inl T)), (a0, .inr (0, [.ref a1])), (a1, .inl (cI, 256, .inl B))]) (wc := [(x0, .inr (3, [.ref t0, .ref h0, .ref s0, .int la, .int cn, .ref v0, .ref r0, .ref a0])), (t0, .inr (2, [.ref t1, .int us])), (t1, .inl (cI, 120, .inl ch)), (h0, .inr (0, [.ref h1])), (h1, .inl (cI, 256, .inl C)), (s0, .inr (1, [.ref s1])), (s1, .inl (cI, 4096, .inl G)), (v0, .inl (cB, 2, .inl sv)), (r0, .inr (0, [.ref r1])), (r1, .inl (cI, 256, .inl T)), (a0, .inr (0, [.ref a1])), (a1, .inl (cI, 256, .inl B))]) (wr := []) (w1 := [(x0, .inr (3, [.ref t0, .ref h0, .ref s0, .int la, .int cn, .ref v0, .ref r0, .ref a0])), (t0, .inr (2, [.ref t1, .int us])), (t1, .inl (cI, 120, .inl ch)), (h0, .inr (0, [.ref h1])), (h1, .inl (cI, 256, .inl C)), (s0, .inr (1, [.ref s1])), (s1, .inl (cI, 4096, .inl G_70)), (v0, .inl (cB, 2, .inl sv_71)), (r0, .inr (0, [.ref r1])), (r1, .inl (cI, 256, .inl T)), (a0, .inr (0, [.ref a1])), (a1, .inl (cI, 256, .inl B))]) (ws' := [(x0, .inr (3, [.ref t0, .ref h0, .ref s0, .int la, .int cn, .ref v0, .ref r0, .ref a0])), (t0, .inr (2, [.ref t1, .int us])), (t1, .inl (cI, 120, .inl ch)), (h0, .inr (0, [.ref h1])), (h1, .inl (cI, 256, .inl C)), (s0, .inr (1, [.ref s1])), (s1, .inl (cI, 4096, .inl G_70)), (v0, .inl (cB, 2, .inl sv_71)), (r0, .inr (0, [.ref r1])), (r1, .inl (cI, 256, .inl T)), (a0, .inr (0, [.ref a1])), (a1, .inl (cI, 256, .inl B))]) hP hD hS hA [0, 1, 2, 3, 4, 5, 6, 7, 8, 9, 10, 11] [] [0, 1, 2, 3, 4, 5, 6, 7, 8, 9, 10, 11] rfl rfl (by decide) (by decide) rfl (by decide) (vx_runSW (As := [.ref x0, .int p2]) (rest := []) ⟨hx, hb, hml, hown, hts⟩ (kM_tryKeep l hlt D cI cB cL x0 t0 t1 h0 h1 s0 s1 v0 r0 r1 a0 a1 _ la cn us ch C G sv T B p2 r_69 G_70 sv_71 h_68) (vx_cwSW 2 hts gL_call_L_tryKeep rfl rfl rfl (by decide +kernel) ⟨Nat.le_of_ble_eq_true rfl, Nat.le_of_ble_eq_true rfl⟩) (pre_S hK hE hP hD hS hA [0, 1, 2, 3, 4, 5, 6, 7, 8, 9, 10, 11] rfl (by decide)) rfl rfl hl.1 rfl (lv_room (Nat.le_of_ble_eq_true rfl)) dL_call_189 ⟨by show 0 + 1 ≤ 1; omega, by show 0 + 6 ≤ 6; omega⟩) (fun H locs hP hD hS => ?_)
    refine W.widen (k := 1) (n := 6) (by omega) (by omega) ?_
    cases hf
    exact rt_ti (T := 1) (T6 := 6) hQ (by omega) (by omega) hx hb hr hlocks hP hD hS dL_call_192
  have hf := br_neg c_67 hf
  refine lv_tableOut (tgt := 193) hx hb dL_call_1 (by have q_72 := sw_ne (0) c_1 (by decide); have q_73 := sw_ne (1) c_4 (by decide); have q_74 := sw_ne (2) c_5 (by decide); have q_75 := sw_ne (3) c_8 (by decide); have q_76 := sw_ne (4) c_11 (by decide); have q_77 := sw_ne (5) c_14 (by decide); have q_78 := sw_ne (6) c_17 (by decide); have q_79 := sw_ne (7) c_20 (by decide); have q_80 := sw_ne (8) c_23 (by decide); have q_81 := sw_ne (9) c_26 (by decide); have q_82 := sw_ne (10) c_33 (by decide); have q_83 := sw_ne (11) c_40 (by decide); have q_84 := sw_ne (12) c_47 (by decide); have q_85 := sw_ne (13) c_54 (by decide); have q_86 := sw_ne (14) c_60 (by decide); have q_87 := sw_ne (15) c_64 (by decide); have q_88 := sw_ne (16) c_67 (by decide); omega) (by decide) ?_
  refine lv_aload_n hx hb dL_call_193 rfl (lv_at hl 0 rfl) ?_
  refine lv_iload_n hx hb dL_call_194 rfl (lv_at hl 2 rfl) ?_
  obtain ⟨q, h_89, hf⟩ := bd_some hf
  obtain ⟨r_90, cn_91, C_92⟩ := q
  try dsimp only at hf
  refine cl_im (ws := [(x0, .inr (3, [.ref t0, .ref h0, .ref s0, .int la, .int cn, .ref v0, .ref r0, .ref a0])), (t0, .inr (2, [.ref t1, .int us])), (t1, .inl (cI, 120, .inl ch)), (h0, .inr (0, [.ref h1])), (h1, .inl (cI, 256, .inl C)), (s0, .inr (1, [.ref s1])), (s1, .inl (cI, 4096, .inl G)), (v0, .inl (cB, 2, .inl sv)), (r0, .inr (0, [.ref r1])), (r1, .inl (cI, 256, .inl T)), (a0, .inr (0, [.ref a1])), (a1, .inl (cI, 256, .inl B))]) (wc := [(x0, .inr (3, [.ref t0, .ref h0, .ref s0, .int la, .int cn, .ref v0, .ref r0, .ref a0])), (t0, .inr (2, [.ref t1, .int us])), (t1, .inl (cI, 120, .inl ch)), (h0, .inr (0, [.ref h1])), (h1, .inl (cI, 256, .inl C)), (s0, .inr (1, [.ref s1])), (s1, .inl (cI, 4096, .inl G)), (v0, .inl (cB, 2, .inl sv)), (r0, .inr (0, [.ref r1])), (r1, .inl (cI, 256, .inl T)), (a0, .inr (0, [.ref a1])), (a1, .inl (cI, 256, .inl B))]) (wr := []) (w1 := [(x0, .inr (3, [.ref t0, .ref h0, .ref s0, .int la, .int cn_91, .ref v0, .ref r0, .ref a0])), (t0, .inr (2, [.ref t1, .int us])), (t1, .inl (cI, 120, .inl ch)), (h0, .inr (0, [.ref h1])), (h1, .inl (cI, 256, .inl C_92)), (s0, .inr (1, [.ref s1])), (s1, .inl (cI, 4096, .inl G)), (v0, .inl (cB, 2, .inl sv)), (r0, .inr (0, [.ref r1])), (r1, .inl (cI, 256, .inl T)), (a0, .inr (0, [.ref a1])), (a1, .inl (cI, 256, .inl B))]) (ws' := [(x0, .inr (3, [.ref t0, .ref h0, .ref s0, .int la, .int cn_91, .ref v0, .ref r0, .ref a0])), (t0, .inr (2, [.ref t1, .int us])), (t1, .inl (cI, 120, .inl ch)), (h0, .inr (0, [.ref h1])), (h1, .inl (cI, 256, .inl C_92)), (s0, .inr (1, [.ref s1])), (s1, .inl (cI, 4096, .inl G)), (v0, .inl (cB, 2, .inl sv)), (r0, .inr (0, [.ref r1])), (r1, .inl (cI, 256, .inl T)), (a0, .inr (0, [.ref a1])), (a1, .inl (cI, 256, .inl B))]) hP hD hS hA [0, 1, 2, 3, 4, 5, 6, 7, 8, 9, 10, 11] [] [0, 1, 2, 3, 4, 5, 6, 7, 8, 9, 10, 11] rfl rfl (by decide) (by decide) rfl (by decide) (vx_runSW (As := [.ref x0, .int p2]) (rest := []) ⟨hx, hb, hml, hown, hts⟩ (kM_tryBack l hlt D cI cB cL x0 t0 t1 h0 h1 s0 s1 v0 r0 r1 a0 a1 _ la cn us ch C G sv T B p2 r_90 cn_91 C_92 h_89) (vx_cwSW 2 hts gL_call_L_tryBack rfl rfl rfl (by decide +kernel) ⟨Nat.le_of_ble_eq_true rfl, Nat.le_of_ble_eq_true rfl⟩) (pre_S hK hE hP hD hS hA [0, 1, 2, 3, 4, 5, 6, 7, 8, 9, 10, 11] rfl (by decide)) rfl rfl hl.1 rfl (lv_room (Nat.le_of_ble_eq_true rfl)) dL_call_195 ⟨by show 0 + 1 ≤ 1; omega, by show 0 + 6 ≤ 6; omega⟩) (fun H locs hP hD hS => ?_)
  refine W.widen (k := 1) (n := 6) (by omega) (by omega) ?_
  cases hf
  exact rt_ti (T := 1) (T6 := 6) hQ (by omega) (by omega) hx hb hr hlocks hP hD hS dL_call_198
abbrev rmM_near : Room := ({ frames := 1, cells := 0, slots := 0, locals := 0 })
set_option maxHeartbeats 4000000 in
set_option maxRecDepth 100000 in
theorem kM_near (l : Launch) (D : va_G) (cI cB cL : ClassId) (sz : Nat) (p0 : Int32) (p1 : Int32) (w : Int32) (hf : fM_near p0 p1 = some w) : Met l yL_near wsL_near rmM_near (mPc D (tyK cI cB cL) [.int p0, .int p1] sz []) (mQi D w [] (va_A [] sz)) 0 0 (va_A [] sz) := by
  refine m_of (Qf := mQi D w []) (cc := cL_near) (maxL := 2) (ret := (some .boolean)) (by decide) rfl (Nat.le_of_ble_eq_true rfl) ?_
  intro p e s m args below meth c A ls hsz hx hb hr hml hown hts hlocks hP hK hD hS hA hE hin hl Q hQ
  subst hsz
  have hl : lv_has ls 2 [(0, .int p0), (1, .int p1)] := hl
  have hown : s.vm.findClass RL = some m.cls := hown
  have hl0 := hl
  have g52 : ∀ (t : Nat) (ht : t + (0) ≤ 0) (H : Heap) (locs : List Loc) (ls : Array Slot), fM_near_52 = some w → va_P D vwCl [] H → va_D A [] → va_S A s.heap H locs → lv_has ls 2 [] → W p l e rmM_near s m args below meth c H locs t (6 * t) Q (F0 m 52 ls []) := by
    intro  t ht H locs ls hf hP hD hS hl
    unfold fM_near_52 at hf
    refine lv_iconst (v := 1) hx hb dL_near_52 (by decide) ?_
    refine lv_goto (tgt := 57) hx hb dL_near_53 (by decide) ?_
    cases hf
    exact rt_tz (T := 0) (T6 := 0) hQ (by omega) (by omega) hx hb hr rfl hlocks hP hD hS dL_near_57
  have g27 : ∀ (t : Nat) (ht : t + (0) ≤ 0) (H : Heap) (locs : List Loc) (ls : Array Slot), fM_near_27 p0 p1 = some w → va_P D vwCl [] H → va_D A [] → va_S A s.heap H locs → lv_has ls 2 [(0, .int p0), (1, .int p1)] → W p l e rmM_near s m args below meth c H locs t (6 * t) Q (F0 m 27 ls []) := by
    intro  t ht H locs ls hf hP hD hS hl
    unfold fM_near_27 at hf
    refine lv_iload_n hx hb dL_near_27 rfl (lv_at hl 0 rfl) ?_
    refine lv_bipush (v := 6) hx hb dL_near_28 (by decide) ?_
    refine lv_idiv hx hb dL_near_30 (by decide) ?_
    refine lv_iload_n hx hb dL_near_31 rfl (lv_at hl 1 rfl) ?_
    refine lv_bipush (v := 6) hx hb dL_near_32 (by decide) ?_
    refine lv_idiv hx hb dL_near_34 (by decide) ?_
    refine lv_icmp_ne (tgt := 56) hx hb dL_near_35 (by decide) (fun c_1 => ?_) (fun c_1 => ?_)
    · have hf := br_neg c_1 hf
      refine lv_iconst (v := 0) hx hb dL_near_56 (by decide) ?_
      cases hf
      exact rt_tz (T := 0) (T6 := 0) hQ (by omega) (by omega) hx hb hr rfl hlocks hP hD hS dL_near_57
    · have hf := br_pos c_1 hf
      refine lv_iload_n hx hb dL_near_38 rfl (lv_at hl 0 rfl) ?_
      refine lv_iload_n hx hb dL_near_39 rfl (lv_at hl 1 rfl) ?_
      refine lv_isub hx hb dL_near_40 ?_
      refine lv_iconst (v := 1) hx hb dL_near_41 (by decide) ?_
      refine lv_icmp_eq (tgt := 52) hx hb dL_near_42 (by decide) (fun c_2 => ?_) (fun c_2 => ?_)
      · have hf := br_pos c_2 hf
        exact g52   t (by omega) _ _ _ hf hP hD hS (lv_sub hl [] rfl)
      · have hf := br_neg c_2 hf
        refine lv_iload_n hx hb dL_near_45 rfl (lv_at hl 1 rfl) ?_
        refine lv_iload_n hx hb dL_near_46 rfl (lv_at hl 0 rfl) ?_
        refine lv_isub hx hb dL_near_47 ?_
        refine lv_iconst (v := 1) hx hb dL_near_48 (by decide) ?_
        refine lv_icmp_ne (tgt := 56) hx hb dL_near_49 (by decide) (fun c_3 => ?_) (fun c_3 => ?_)
        · have hf := br_neg c_3 hf
          refine lv_iconst (v := 0) hx hb dL_near_56 (by decide) ?_
          cases hf
          exact rt_tz (T := 0) (T6 := 0) hQ (by omega) (by omega) hx hb hr rfl hlocks hP hD hS dL_near_57
        · have hf := br_pos c_3 hf
          exact g52   t (by omega) _ _ _ hf hP hD hS (lv_sub hl [] rfl)
  unfold fM_near at hf
  refine lv_iload_n hx hb dL_near_0 rfl (lv_at hl 0 rfl) ?_
  refine lv_bipush (v := 6) hx hb dL_near_1 (by decide) ?_
  refine lv_irem hx hb dL_near_3 (by decide) ?_
  refine lv_iload_n hx hb dL_near_4 rfl (lv_at hl 1 rfl) ?_
  refine lv_bipush (v := 6) hx hb dL_near_5 (by decide) ?_
  refine lv_irem hx hb dL_near_7 (by decide) ?_
  refine lv_icmp_ne (tgt := 27) hx hb dL_near_8 (by decide) (fun c_4 => ?_) (fun c_4 => ?_)
  · have hf := br_neg c_4 hf
    exact g27   0 (by omega) _ _ _ hf hP hD hS (lv_sub hl [0, 1] rfl)
  · have hf := br_pos c_4 hf
    refine lv_iload_n hx hb dL_near_11 rfl (lv_at hl 0 rfl) ?_
    refine lv_iload_n hx hb dL_near_12 rfl (lv_at hl 1 rfl) ?_
    refine lv_isub hx hb dL_near_13 ?_
    refine lv_bipush (v := 6) hx hb dL_near_14 (by decide) ?_
    refine lv_icmp_eq (tgt := 52) hx hb dL_near_16 (by decide) (fun c_5 => ?_) (fun c_5 => ?_)
    · have hf := br_pos c_5 hf
      exact g52   0 (by omega) _ _ _ hf hP hD hS (lv_sub hl [] rfl)
    · have hf := br_neg c_5 hf
      refine lv_iload_n hx hb dL_near_19 rfl (lv_at hl 1 rfl) ?_
      refine lv_iload_n hx hb dL_near_20 rfl (lv_at hl 0 rfl) ?_
      refine lv_isub hx hb dL_near_21 ?_
      refine lv_bipush (v := 6) hx hb dL_near_22 (by decide) ?_
      refine lv_icmp_eq (tgt := 52) hx hb dL_near_24 (by decide) (fun c_6 => ?_) (fun c_6 => ?_)
      · have hf := br_pos c_6 hf
        exact g52   0 (by omega) _ _ _ hf hP hD hS (lv_sub hl [] rfl)
      · have hf := br_neg c_6 hf
        exact g27   0 (by omega) _ _ _ hf hP hD hS (lv_sub hl [0, 1] rfl)
abbrev rmM_thrown : Room := ({ frames := 1, cells := 0, slots := 0, locals := 0 })
set_option maxHeartbeats 4000000 in
set_option maxRecDepth 100000 in
theorem kM_thrown (l : Launch) (D : va_G) (cI cB cL : ClassId) (sz : Nat) (p0 : Int32) (w : Int32) (hf : fM_thrown p0 = some w) : Met l yL_thrown wsL_thrown rmM_thrown (mPc D (tyK cI cB cL) [.int p0] sz []) (mQi D w [] (va_A [] sz)) 0 0 (va_A [] sz) := by
  refine m_of (Qf := mQi D w []) (cc := cL_thrown) (maxL := 1) (ret := (some .boolean)) (by decide) rfl (Nat.le_of_ble_eq_true rfl) ?_
  intro p e s m args below meth c A ls hsz hx hb hr hml hown hts hlocks hP hK hD hS hA hE hin hl Q hQ
  subst hsz
  have hl : lv_has ls 1 [(0, .int p0)] := hl
  have hown : s.vm.findClass RL = some m.cls := hown
  have hl0 := hl
  have g18 : ∀ (t : Nat) (ht : t + (0) ≤ 0) (H : Heap) (locs : List Loc) (ls : Array Slot), fM_thrown_18 = some w → va_P D vwCl [] H → va_D A [] → va_S A s.heap H locs → lv_has ls 1 [] → W p l e rmM_thrown s m args below meth c H locs t (6 * t) Q (F0 m 18 ls []) := by
    intro  t ht H locs ls hf hP hD hS hl
    unfold fM_thrown_18 at hf
    refine lv_iconst (v := 1) hx hb dL_thrown_18 (by decide) ?_
    refine lv_goto (tgt := 23) hx hb dL_thrown_19 (by decide) ?_
    cases hf
    exact rt_tz (T := 0) (T6 := 0) hQ (by omega) (by omega) hx hb hr rfl hlocks hP hD hS dL_thrown_23
  unfold fM_thrown at hf
  refine lv_iload_n hx hb dL_thrown_0 rfl (lv_at hl 0 rfl) ?_
  refine lv_ldc hx hb hown (hts (.constant RL 15 (-9999001)) (List.mem_of_getElem? (i := 1) rfl)) dL_thrown_1 ?_
  refine lv_icmp_eq (tgt := 18) hx hb dL_thrown_3 (by decide) (fun c_1 => ?_) (fun c_1 => ?_)
  · have hf := br_pos c_1 hf
    exact g18   0 (by omega) _ _ _ hf hP hD hS (lv_sub hl [] rfl)
  · have hf := br_neg c_1 hf
    refine lv_iload_n hx hb dL_thrown_6 rfl (lv_at hl 0 rfl) ?_
    refine lv_ldc hx hb hown (hts (.constant RL 25 (-9999002)) (List.mem_of_getElem? (i := 2) rfl)) dL_thrown_7 ?_
    refine lv_icmp_eq (tgt := 18) hx hb dL_thrown_9 (by decide) (fun c_2 => ?_) (fun c_2 => ?_)
    · have hf := br_pos c_2 hf
      exact g18   0 (by omega) _ _ _ hf hP hD hS (lv_sub hl [] rfl)
    · have hf := br_neg c_2 hf
      refine lv_iload_n hx hb dL_thrown_12 rfl (lv_at hl 0 rfl) ?_
      refine lv_ldc hx hb hown (hts (.constant RL 18 (-9999003)) (List.mem_of_getElem? (i := 3) rfl)) dL_thrown_13 ?_
      refine lv_icmp_ne (tgt := 22) hx hb dL_thrown_15 (by decide) (fun c_3 => ?_) (fun c_3 => ?_)
      · have hf := br_neg c_3 hf
        refine lv_iconst (v := 0) hx hb dL_thrown_22 (by decide) ?_
        cases hf
        exact rt_tz (T := 0) (T6 := 0) hQ (by omega) (by omega) hx hb hr rfl hlocks hP hD hS dL_thrown_23
      · have hf := br_pos c_3 hf
        exact g18   0 (by omega) _ _ _ hf hP hD hS (lv_sub hl [] rfl)
