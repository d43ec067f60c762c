/-! THE LAW: its loop -/
section LOP
variable {p : Program} {l : Launch} {e : Env} {s : State} {m : MethodId} {below : List Frame} {meth : Method} {c : Code} {b L : Nat} {xs : Nat → Int32} {D : va_G} {cI cB cL : ClassId} {Q : State → Prop} {x0 t0 t1 h0 h1 s0 s1 v0 r0 r1 a0 a1 o0 m0 m1 m2 m3 m4 m5 m6 m7 : Nat}
/-- the end of the loop -/
theorem lp_end {t : Nat} (hL : L ≤ 2048) (ht : 4 * t ≤ L) : Int32.ofNat L - 4 < nI (4 * t) ↔ L < 4 * t + 4 := by
  rw [show Int32.ofNat L = nI L from rfl]
  by_cases h : L < 4
  · have h0 : t = 0 := by omega
    subst h0
    have : L = 0 ∨ L = 1 ∨ L = 2 ∨ L = 3 := by omega
    refine ⟨fun _ => by omega, fun _ => ?_⟩
    rcases this with rfl | rfl | rfl | rfl <;> decide
  · rw [show (4 : Int32) = nI 4 from rfl, m_sub (by omega), m_lt (by omega) (by omega)]
    omega
theorem lp_and (y : Int32) : ∃ k, k < 32 ∧ y &&& 31 = nI k := by
  obtain ⟨n, hn, rfl⟩ := nI_sur y
  refine ⟨n &&& 31, Nat.lt_of_le_of_lt Nat.and_le_right (by omega), ?_⟩
  have h31 : n &&& 31 ≤ 31 := Nat.and_le_right
  apply Int32.toBitVec_inj.mp
  apply BitVec.eq_of_toNat_eq
  rw [nI_tn, Int32.toBitVec_and, BitVec.toNat_and, nI_tn, Nat.mod_eq_of_lt hn]
  show n &&& 31 = (n &&& 31) % 4294967296
  omega
/-- what the law holds at its head, with t calls done -/
def HD (p : Program) (l : Launch) (e : Env) (s : State) (m : MethodId) (below : List Frame) (meth : Method) (c : Code) (b : Nat) (D : va_G) (cI cB cL : ClassId) (Q : State → Prop) (x0 t0 t1 h0 h1 s0 s1 v0 r0 r1 a0 a1 o0 m0 m1 m2 m3 m4 m5 m6 m7 : Nat) (t : Nat) : Prop := ∀ (v4 : Int32) (la : Int32) (cn : Int32) (us : Int32) (ch : Nat → Int32) (C : Nat → Int32) (G : Nat → Int32) (sv : Nat → Int32) (T : Nat → Int32) (B : Nat → Int32) (O : Nat → Int64) (rf : Int32) (zs : Int32) (ac : Int32) (sp : Int32) (ou : Int32) (mt : Nat → Int32) (N : Nat → Int32) (jT : Nat → Int32) (jO : Nat → Int32) (dy : Nat → Int32) (kp : Nat → Int32) (ik : Nat → Int32) (H : Heap) (locs : List Loc) (ls : Array Slot), v4 = nI (4 * t) → ST (7200 * t) la cn C G sv ac N dy kp ik → TX us ch zs mt → va_P D vwCl [(x0, .inr (3, [.ref t0, .ref h0, .ref s0, .int la, .int cn, .ref v0, .ref r0, .ref a0])), (t0, .inr (2, [.ref t1, .int us])), (t1, .inl (cI, 120, .inl ch)), (h0, .inr (0, [.ref h1])), (h1, .inl (cI, 256, .inl C)), (s0, .inr (1, [.ref s1])), (s1, .inl (cI, 4096, .inl G)), (v0, .inl (cB, 2, .inl sv)), (r0, .inr (0, [.ref r1])), (r1, .inl (cI, 256, .inl T)), (a0, .inr (0, [.ref a1])), (a1, .inl (cI, 256, .inl B)), (o0, .inl (cL, 1, .inr (.inl O))), (m0, .inr (4, [.int rf, .ref m1, .int zs, .ref m2, .ref m3, .ref m4, .ref m5, .int ac, .ref m6, .ref m7, .int sp, .int ou])), (m1, .inl (cI, 120, .inl mt)), (m2, .inl (cI, 220, .inl N)), (m3, .inl (cI, 220, .inl jT)), (m4, .inl (cI, 220, .inl jO)), (m5, .inl (cI, 3080, .inl dy)), (m6, .inl (cI, 440, .inl kp)), (m7, .inl (cB, 2, .inl ik))] H → va_D (fun q : Nat => s.heap.size ≤ q) [(x0, .inr (3, [.ref t0, .ref h0, .ref s0, .int la, .int cn, .ref v0, .ref r0, .ref a0])), (t0, .inr (2, [.ref t1, .int us])), (t1, .inl (cI, 120, .inl ch)), (h0, .inr (0, [.ref h1])), (h1, .inl (cI, 256, .inl C)), (s0, .inr (1, [.ref s1])), (s1, .inl (cI, 4096, .inl G)), (v0, .inl (cB, 2, .inl sv)), (r0, .inr (0, [.ref r1])), (r1, .inl (cI, 256, .inl T)), (a0, .inr (0, [.ref a1])), (a1, .inl (cI, 256, .inl B)), (o0, .inl (cL, 1, .inr (.inl O))), (m0, .inr (4, [.int rf, .ref m1, .int zs, .ref m2, .ref m3, .ref m4, .ref m5, .int ac, .ref m6, .ref m7, .int sp, .int ou])), (m1, .inl (cI, 120, .inl mt)), (m2, .inl (cI, 220, .inl N)), (m3, .inl (cI, 220, .inl jT)), (m4, .inl (cI, 220, .inl jO)), (m5, .inl (cI, 3080, .inl dy)), (m6, .inl (cI, 440, .inl kp)), (m7, .inl (cB, 2, .inl ik))] → va_S (fun q : Nat => s.heap.size ≤ q) s.heap H locs → lv_has ls 7 [(0, .ref b), (1, .ref x0), (2, .ref m0), (3, .ref o0), (4, .int v4)] → W p l e room_1 s m #[Value.ref b] below meth c H locs (21 + t) (9315 + 6 * t) Q (F0 m 23 ls [])
/-- a case goes on with what holds behind it -/
noncomputable def KK (M : Nat) (w : Int32) : LK := fun v4 la cn us ch C G sv T B O rf zs ac sp ou mt N jT jO dy kp ik => by classical exact if v4 = w ∧ ST M la cn C G sv ac N dy kp ik ∧ TX us ch zs mt then some () else none
theorem KK_ok {M : Nat} {w : Int32} : KOK (KK M w) w M := by
  intro la cn us ch C G sv T B O rf zs ac sp ou mt N jT jO dy kp ik h1 h2
  unfold KK
  exact if_pos ⟨rfl, h1, h2⟩
theorem KK_of {M : Nat} {w v4 : Int32} {la : Int32} {cn : Int32} {us : Int32} {ch : Nat → Int32} {C : Nat → Int32} {G : Nat → Int32} {sv : Nat → Int32} {T : Nat → Int32} {B : Nat → Int32} {O : Nat → Int64} {rf : Int32} {zs : Int32} {ac : Int32} {sp : Int32} {ou : Int32} {mt : Nat → Int32} {N : Nat → Int32} {jT : Nat → Int32} {jO : Nat → Int32} {dy : Nat → Int32} {kp : Nat → Int32} {ik : Nat → Int32} (h : KK M w v4 la cn us ch C G sv T B O rf zs ac sp ou mt N jT jO dy kp ik = some ()) : v4 = w ∧ ST M la cn C G sv ac N dy kp ik ∧ TX us ch zs mt := by
  unfold KK at h
  by_cases g : v4 = w ∧ ST M la cn C G sv ac N dy kp ik ∧ TX us ch zs mt
  · exact g
  · rw [if_neg g] at h
    cases h
theorem lp_go {t : Nat} (ih : HD p l e s m below meth c b D cI cB cL Q x0 t0 t1 h0 h1 s0 s1 v0 r0 r1 a0 a1 o0 m0 m1 m2 m3 m4 m5 m6 m7 (t + 1)) : ∀ (w4 : Int32) (la : Int32) (cn : Int32) (us : Int32) (ch : Nat → Int32) (C : Nat → Int32) (G : Nat → Int32) (sv : Nat → Int32) (T : Nat → Int32) (B : Nat → Int32) (O : Nat → Int64) (rf : Int32) (zs : Int32) (ac : Int32) (sp : Int32) (ou : Int32) (mt : Nat → Int32) (N : Nat → Int32) (jT : Nat → Int32) (jO : Nat → Int32) (dy : Nat → Int32) (kp : Nat → Int32) (ik : Nat → Int32) (H : Heap) (locs : List Loc) (ls : Array Slot), w4 = nI (4 * t) + 4 → KK (7200 * t + 7200) (nI (4 * t) + 4) w4 la cn us ch C G sv T B O rf zs ac sp ou mt N jT jO dy kp ik = some () → va_P D vwCl [(x0, .inr (3, [.ref t0, .ref h0, .ref s0, .int la, .int cn, .ref v0, .ref r0, .ref a0])), (t0, .inr (2, [.ref t1, .int us])), (t1, .inl (cI, 120, .inl ch)), (h0, .inr (0, [.ref h1])), (h1, .inl (cI, 256, .inl C)), (s0, .inr (1, [.ref s1])), (s1, .inl (cI, 4096, .inl G)), (v0, .inl (cB, 2, .inl sv)), (r0, .inr (0, [.ref r1])), (r1, .inl (cI, 256, .inl T)), (a0, .inr (0, [.ref a1])), (a1, .inl (cI, 256, .inl B)), (o0, .inl (cL, 1, .inr (.inl O))), (m0, .inr (4, [.int rf, .ref m1, .int zs, .ref m2, .ref m3, .ref m4, .ref m5, .int ac, .ref m6, .ref m7, .int sp, .int ou])), (m1, .inl (cI, 120, .inl mt)), (m2, .inl (cI, 220, .inl N)), (m3, .inl (cI, 220, .inl jT)), (m4, .inl (cI, 220, .inl jO)), (m5, .inl (cI, 3080, .inl dy)), (m6, .inl (cI, 440, .inl kp)), (m7, .inl (cB, 2, .inl ik))] H → va_D (fun q : Nat => s.heap.size ≤ q) [(x0, .inr (3, [.ref t0, .ref h0, .ref s0, .int la, .int cn, .ref v0, .ref r0, .ref a0])), (t0, .inr (2, [.ref t1, .int us])), (t1, .inl (cI, 120, .inl ch)), (h0, .inr (0, [.ref h1])), (h1, .inl (cI, 256, .inl C)), (s0, .inr (1, [.ref s1])), (s1, .inl (cI, 4096, .inl G)), (v0, .inl (cB, 2, .inl sv)), (r0, .inr (0, [.ref r1])), (r1, .inl (cI, 256, .inl T)), (a0, .inr (0, [.ref a1])), (a1, .inl (cI, 256, .inl B)), (o0, .inl (cL, 1, .inr (.inl O))), (m0, .inr (4, [.int rf, .ref m1, .int zs, .ref m2, .ref m3, .ref m4, .ref m5, .int ac, .ref m6, .ref m7, .int sp, .int ou])), (m1, .inl (cI, 120, .inl mt)), (m2, .inl (cI, 220, .inl N)), (m3, .inl (cI, 220, .inl jT)), (m4, .inl (cI, 220, .inl jO)), (m5, .inl (cI, 3080, .inl dy)), (m6, .inl (cI, 440, .inl kp)), (m7, .inl (cB, 2, .inl ik))] → va_S (fun q : Nat => s.heap.size ≤ q) s.heap H locs → lv_has ls 7 [(0, .ref b), (1, .ref x0), (2, .ref m0), (3, .ref o0), (4, .int w4)] → W p l e room_1 s m #[Value.ref b] below meth c H locs (21 + (t + 1)) (9315 + 6 * (t + 1)) Q (F0 m 23 ls []) := by
  intro w4 la cn us ch C G sv T B O rf zs ac sp ou mt N jT jO dy kp ik H locs ls hw hk hP hD hS hl
  obtain ⟨-, h1, h2⟩ := KK_of hk
  have e4 : nI (4 * t) + 4 = nI (4 * (t + 1)) := by
    rw [show (4 : Int32) = nI 4 from rfl, m_add]
    rfl
  exact ih w4 la cn us ch C G sv T B O rf zs ac sp ou mt N jT jO dy kp ik H locs ls (hw.trans e4) (h1.mono (by omega)) h2 hP hD hS hl
set_option maxHeartbeats 4000000 in
set_option maxRecDepth 100000 in
theorem law_loop (hL : L ≤ 2048) (C0 : LW p l s m #[Value.ref b] meth c b L xs D cI cB cL) (hend : ∀ (H : Heap) (ls : Array Slot) (pc : Nat), decode cL_law pc = .ok (.ireturn, 1) → W p l e room_1 s m #[Value.ref b] below meth c H [] 1077 17699 Q (F0 m pc ls [.int 1])) : ∀ d t, 513 ≤ t + d → 4 * t ≤ L → HD p l e s m below meth c b D cI cB cL Q x0 t0 t1 h0 h1 s0 s1 v0 r0 r1 a0 a1 o0 m0 m1 m2 m3 m4 m5 m6 m7 t := by
  obtain ⟨hx, hb, hml, hown, hts, hX, hbl, hK, hE, hlt⟩ := id C0
  have hbA : ¬ (fun q : Nat => s.heap.size ≤ q) b := Nat.not_le.mpr hbl
  intro d
  induction d with
  | zero =>
    intro t h1 h2
    exact absurd h1 (by omega)
  | succ d ih =>
    intro t h1 h2 v4 la cn us ch C G sv T B O rf zs ac sp ou mt N jT jO dy kp ik H locs ls hv hI hT hP hD hS hl
    subst hv
    refine lv_iload hx hb dL_law_23 (lv_at hl 4 rfl) ?_
    refine lv_aload_n hx hb dL_law_25 rfl (lv_at hl 0 rfl) ?_
    refine va_slen hx hb hX hbl hbA hS dL_law_26 ?_
    refine lv_iconst (v := 4) hx hb dL_law_27 (by decide) ?_
    refine lv_isub hx hb dL_law_28 ?_
    refine lv_icmp_gt (tgt := 1579) hx hb dL_law_29 (by decide) (fun c_1 => ?_) (fun c_1 => ?_)
    · refine lv_iconst (v := 1) hx hb dL_law_1579 (by decide) ?_
      refine va_forget (fun q hq => hS.2.2 q hq) ?_
      refine W.widen (k := 1077) (n := 17699) (by omega) (by omega) ?_
      exact hend H ls 1580 dL_law_1580
    · have hi : 4 * t + 4 ≤ L := Nat.not_lt.mp (fun z => c_1 ((lp_end hL h2).mpr z))
      have hin : vp_in (nI (4 * t)) L := vp_in_nI (by omega) (by omega)
      have hm : 7200 * t ≤ 1000000000 := by omega
      have hg := lp_go (ih (t + 1) (by omega) (by omega))
      refine lv_aload_n hx hb dL_law_32 rfl (lv_at hl 0 rfl) ?_
      refine lv_iload hx hb dL_law_33 (lv_at hl 4 rfl) ?_
      refine va_sld hx hb hX hbl hbA hS hin dL_law_35 ?_
      refine lv_bipush (v := 31) hx hb dL_law_36 (by decide) ?_
      refine lv_iand hx hb dL_law_38 ?_
      obtain ⟨k, hk, ek⟩ := lp_and (xs (nI (4 * t)).toNatClampNeg)
      rw [ek]
      by_cases hk2 : 26 ≤ k
      · refine lv_tableOut (tgt := 1573) hx hb dL_law_39 (Or.inr (by rw [nI_toInt (by omega)]; omega)) (by decide) ?_
        refine lv_iinc (v := (nI (4 * t) + 4)) (lv' := [(4, .int (nI (4 * t) + 4)), (0, .ref b), (1, .ref x0), (2, .ref m0), (3, .ref o0)]) hx hb dL_law_1573 hl (k := 4) rfl rfl (by decide) rfl (fun ls hl => ?_)
        refine lv_goto (tgt := 23) hx hb dL_law_1576 (by decide) ?_
        refine W.widen (k := 21 + (t + 1)) (n := 9315 + 6 * (t + 1)) (by omega) (by omega) ?_
        exact hg _ _ _ _ _ _ _ _ _ _ _ _ _ _ _ _ _ _ _ _ _ _ _ _ _ _ rfl (KK_ok _ _ _ _ _ _ _ _ _ _ _ _ _ _ _ _ _ _ _ _ _ _ (hI.mono (by omega)) hT) hP hD hS (lv_sub hl [1, 2, 3, 4, 0] rfl)
      · have hk3 : k = 0 ∨ k = 1 ∨ k = 2 ∨ k = 3 ∨ k = 4 ∨ k = 5 ∨ k = 6 ∨ k = 7 ∨ k = 8 ∨ k = 9 ∨ k = 10 ∨ k = 11 ∨ k = 12 ∨ k = 13 ∨ k = 14 ∨ k = 15 ∨ k = 16 ∨ k = 17 ∨ k = 18 ∨ k = 19 ∨ k = 20 ∨ k = 21 ∨ k = 22 ∨ k = 23 ∨ k = 24 ∨ k = 25 := by omega
        rcases hk3 with rfl | rfl | rfl | rfl | rfl | rfl | rfl | rfl | rfl | rfl | rfl | rfl | rfl | rfl | rfl | rfl | rfl | rfl | rfl | rfl | rfl | rfl | rfl | rfl | rfl | rfl
        · refine lv_tableIn (off := 117) (tgt := 156) hx hb dL_law_39 (by decide) (by decide) (by rfl) (by decide) ?_
          exact kL_case0 C0 t (by omega) (nI (4 * t)) (KK (7200 * t + 7200) (nI (4 * t) + 4)) hg la cn us ch C G sv T B O rf zs ac sp ou mt N jT jO dy kp ik H locs ls (p_case0 hi hL hm hI hT KK_ok) hP hD hS hl
        · refine lv_tableIn (off := 173) (tgt := 212) hx hb dL_law_39 (by decide) (by decide) (by rfl) (by decide) ?_
          exact kL_case1 C0 t (by omega) (nI (4 * t)) (KK (7200 * t + 7200) (nI (4 * t) + 4)) hg la cn us ch C G sv T B O rf zs ac sp ou mt N jT jO dy kp ik H locs ls (p_case1 hi hL hm hI hT KK_ok) hP hD hS hl
        · refine lv_tableIn (off := 186) (tgt := 225) hx hb dL_law_39 (by decide) (by decide) (by rfl) (by decide) ?_
          exact kL_case2 C0 t (by omega) (nI (4 * t)) (KK (7200 * t + 7200) (nI (4 * t) + 4)) hg la cn us ch C G sv T B O rf zs ac sp ou mt N jT jO dy kp ik H locs ls (p_case2 hi hL hm hI hT KK_ok) hP hD hS hl
        · refine lv_tableIn (off := 199) (tgt := 238) hx hb dL_law_39 (by decide) (by decide) (by rfl) (by decide) ?_
          exact kL_case3 C0 t (by omega) (nI (4 * t)) (KK (7200 * t + 7200) (nI (4 * t) + 4)) hg la cn us ch C G sv T B O rf zs ac sp ou mt N jT jO dy kp ik H locs ls (p_case3 hi hL hm hI hT KK_ok) hP hD hS hl
        · refine lv_tableIn (off := 243) (tgt := 282) hx hb dL_law_39 (by decide) (by decide) (by rfl) (by decide) ?_
          exact kL_case4 C0 t (by omega) (nI (4 * t)) (KK (7200 * t + 7200) (nI (4 * t) + 4)) hg la cn us ch C G sv T B O rf zs ac sp ou mt N jT jO dy kp ik H locs ls (p_case4 hi hL hm hI hT KK_ok) hP hD hS hl
        · refine lv_tableIn (off := 299) (tgt := 338) hx hb dL_law_39 (by decide) (by decide) (by rfl) (by decide) ?_
          exact kL_case5 C0 t (by omega) (nI (4 * t)) (KK (7200 * t + 7200) (nI (4 * t) + 4)) hg la cn us ch C G sv T B O rf zs ac sp ou mt N jT jO dy kp ik H locs ls (p_case5 hi hL hm hI hT KK_ok) hP hD hS hl
        · refine lv_tableIn (off := 367) (tgt := 406) hx hb dL_law_39 (by decide) (by decide) (by rfl) (by decide) ?_
          exact kL_case6 C0 t (by omega) (nI (4 * t)) (KK (7200 * t + 7200) (nI (4 * t) + 4)) hg la cn us ch C G sv T B O rf zs ac sp ou mt N jT jO dy kp ik H locs ls (p_case6 hi hL hm hI hT KK_ok) hP hD hS hl
        · refine lv_tableIn (off := 435) (tgt := 474) hx hb dL_law_39 (by decide) (by decide) (by rfl) (by decide) ?_
          exact kL_case7 C0 t (by omega) (nI (4 * t)) (KK (7200 * t + 7200) (nI (4 * t) + 4)) hg la cn us ch C G sv T B O rf zs ac sp ou mt N jT jO dy kp ik H locs ls (p_case7 hi hL hm hI hT KK_ok) hP hD hS hl
        · refine lv_tableIn (off := 503) (tgt := 542) hx hb dL_law_39 (by decide) (by decide) (by rfl) (by decide) ?_
          exact kL_case8 C0 t (by omega) (nI (4 * t)) (KK (7200 * t + 7200) (nI (4 * t) + 4)) hg la cn us ch C G sv T B O rf zs ac sp ou mt N jT jO dy kp ik H locs ls (p_case8 hi hL hm hI hT KK_ok) hP hD hS hl
        · refine lv_tableIn (off := 559) (tgt := 598) hx hb dL_law_39 (by decide) (by decide) (by rfl) (by decide) ?_
          exact kL_case9 C0 t (by omega) (nI (4 * t)) (KK (7200 * t + 7200) (nI (4 * t) + 4)) hg la cn us ch C G sv T B O rf zs ac sp ou mt N jT jO dy kp ik H locs ls (p_case9 hi hL hm hI hT KK_ok) hP hD hS hl
        · refine lv_tableIn (off := 615) (tgt := 654) hx hb dL_law_39 (by decide) (by decide) (by rfl) (by decide) ?_
          exact kL_case10 C0 t (by omega) (nI (4 * t)) (KK (7200 * t + 7200) (nI (4 * t) + 4)) hg la cn us ch C G sv T B O rf zs ac sp ou mt N jT jO dy kp ik H locs ls (p_case10 hi hL hm hI hT KK_ok) hP hD hS hl
        · refine lv_tableIn (off := 671) (tgt := 710) hx hb dL_law_39 (by decide) (by decide) (by rfl) (by decide) ?_
          exact kL_case11 C0 t (by omega) (nI (4 * t)) (KK (7200 * t + 7200) (nI (4 * t) + 4)) hg la cn us ch C G sv T B O rf zs ac sp ou mt N jT jO dy kp ik H locs ls (p_case11 hi hL hm hI hT KK_ok) hP hD hS hl
        · refine lv_tableIn (off := 751) (tgt := 790) hx hb dL_law_39 (by decide) (by decide) (by rfl) (by decide) ?_
          exact kL_case12 C0 t (by omega) (nI (4 * t)) (KK (7200 * t + 7200) (nI (4 * t) + 4)) hg la cn us ch C G sv T B O rf zs ac sp ou mt N jT jO dy kp ik H locs ls (p_case12 hi hL hm hI hT KK_ok) hP hD hS hl
        · refine lv_tableIn (off := 807) (tgt := 846) hx hb dL_law_39 (by decide) (by decide) (by rfl) (by decide) ?_
          exact kL_case13 C0 t (by omega) (nI (4 * t)) (KK (7200 * t + 7200) (nI (4 * t) + 4)) hg la cn us ch C G sv T B O rf zs ac sp ou mt N jT jO dy kp ik H locs ls (p_case13 hi hL hm hI hT KK_ok) hP hD hS hl
        · refine lv_tableIn (off := 863) (tgt := 902) hx hb dL_law_39 (by decide) (by decide) (by rfl) (by decide) ?_
          exact kL_case14 C0 t (by omega) (nI (4 * t)) (KK (7200 * t + 7200) (nI (4 * t) + 4)) hg la cn us ch C G sv T B O rf zs ac sp ou mt N jT jO dy kp ik H locs ls (p_case14 hi hL hm hI hT KK_ok) hP hD hS hl
        · refine lv_tableIn (off := 947) (tgt := 986) hx hb dL_law_39 (by decide) (by decide) (by rfl) (by decide) ?_
          exact kL_case15 C0 t (by omega) (nI (4 * t)) (KK (7200 * t + 7200) (nI (4 * t) + 4)) hg la cn us ch C G sv T B O rf zs ac sp ou mt N jT jO dy kp ik H locs ls (p_case15 hi hL hm hI hT KK_ok) hP hD hS hl
        · refine lv_tableIn (off := 1003) (tgt := 1042) hx hb dL_law_39 (by decide) (by decide) (by rfl) (by decide) ?_
          exact kL_case16 C0 t (by omega) (nI (4 * t)) (KK (7200 * t + 7200) (nI (4 * t) + 4)) hg la cn us ch C G sv T B O rf zs ac sp ou mt N jT jO dy kp ik H locs ls (p_case16 hi hL hm hI hT KK_ok) hP hD hS hl
        · refine lv_tableIn (off := 1047) (tgt := 1086) hx hb dL_law_39 (by decide) (by decide) (by rfl) (by decide) ?_
          exact kL_case17 C0 t (by omega) (nI (4 * t)) (KK (7200 * t + 7200) (nI (4 * t) + 4)) hg la cn us ch C G sv T B O rf zs ac sp ou mt N jT jO dy kp ik H locs ls (p_case17 hi hL hm hI hT KK_ok) hP hD hS hl
        · refine lv_tableIn (off := 1103) (tgt := 1142) hx hb dL_law_39 (by decide) (by decide) (by rfl) (by decide) ?_
          exact kL_case18 C0 t (by omega) (nI (4 * t)) (KK (7200 * t + 7200) (nI (4 * t) + 4)) hg la cn us ch C G sv T B O rf zs ac sp ou mt N jT jO dy kp ik H locs ls (p_case18 hi hL hm hI hT KK_ok) hP hD hS hl
        · refine lv_tableIn (off := 1116) (tgt := 1155) hx hb dL_law_39 (by decide) (by decide) (by rfl) (by decide) ?_
          exact kL_case19 C0 t (by omega) (nI (4 * t)) (KK (7200 * t + 7200) (nI (4 * t) + 4)) hg la cn us ch C G sv T B O rf zs ac sp ou mt N jT jO dy kp ik H locs ls (p_case19 hi hL hm hI hT KK_ok) hP hD hS hl
        · refine lv_tableIn (off := 1129) (tgt := 1168) hx hb dL_law_39 (by decide) (by decide) (by rfl) (by decide) ?_
          exact kL_case20 C0 t (by omega) (nI (4 * t)) (KK (7200 * t + 7200) (nI (4 * t) + 4)) hg la cn us ch C G sv T B O rf zs ac sp ou mt N jT jO dy kp ik H locs ls (p_case20 hi hL hm hI hT KK_ok) hP hD hS hl
        · refine lv_tableIn (off := 1142) (tgt := 1181) hx hb dL_law_39 (by decide) (by decide) (by rfl) (by decide) ?_
          exact kL_case21 C0 t (by omega) (nI (4 * t)) (KK (7200 * t + 7200) (nI (4 * t) + 4)) hg la cn us ch C G sv T B O rf zs ac sp ou mt N jT jO dy kp ik H locs ls (p_case21 hi hL hm hI hT KK_ok) hP hD hS hl
        · refine lv_tableIn (off := 1222) (tgt := 1261) hx hb dL_law_39 (by decide) (by decide) (by rfl) (by decide) ?_
          exact kL_case22 C0 t (by omega) (nI (4 * t)) (KK (7200 * t + 7200) (nI (4 * t) + 4)) hg la cn us ch C G sv T B O rf zs ac sp ou mt N jT jO dy kp ik H locs ls (p_case22 hi hL hm hI hT KK_ok) hP hD hS hl
        · refine lv_tableIn (off := 1322) (tgt := 1361) hx hb dL_law_39 (by decide) (by decide) (by rfl) (by decide) ?_
          exact kL_case23 C0 t (by omega) (nI (4 * t)) (KK (7200 * t + 7200) (nI (4 * t) + 4)) hg la cn us ch C G sv T B O rf zs ac sp ou mt N jT jO dy kp ik H locs ls (p_case23 hi hL hm hI hT KK_ok) hP hD hS hl
        · refine lv_tableIn (off := 1422) (tgt := 1461) hx hb dL_law_39 (by decide) (by decide) (by rfl) (by decide) ?_
          exact kL_case24 C0 t (by omega) (nI (4 * t)) (KK (7200 * t + 7200) (nI (4 * t) + 4)) hg la cn us ch C G sv T B O rf zs ac sp ou mt N jT jO dy kp ik H locs ls (p_case24 hi hL hm hI hT KK_ok) hP hD hS hl
        · refine lv_tableIn (off := 1478) (tgt := 1517) hx hb dL_law_39 (by decide) (by decide) (by rfl) (by decide) ?_
          exact kL_case25 C0 t (by omega) (nI (4 * t)) (KK (7200 * t + 7200) (nI (4 * t) + 4)) hg la cn us ch C G sv T B O rf zs ac sp ou mt N jT jO dy kp ik H locs ls (p_case25 hi hL hm hI hT KK_ok) hP hD hS hl
end LOP
