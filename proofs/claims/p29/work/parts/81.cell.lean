/-! THE SCRIPT's cell -/
def cPc (as : List Value) (sz b L : Nat) (xs : Nat → Int32) : Array Value → State → Prop := va_Pc as (fun U => U.heap.size = sz ∧ va_X b L xs U U.heap ∧ b < sz)
theorem cPc_blind {as : List Value} {sz b L : Nat} {xs : Nat → Int32} : FrameBlind (cPc as sz b L xs) := by
  intro a U g mk q
  obtain ⟨h0, h1, h2, h3⟩ := q
  exact ⟨h0, h1, va_X.moved (u := U) (U := U.calling g mk a) (Vm.Alike.refl U.vm) h2, h3⟩
theorem m_ofc {l : Launch} {y : MethodName} {ws ws' : List Cond} {rm : Room} {Qf : (Nat → Prop) → Array Value → State → Outcome → State → Prop} {cc : ByteArray} {maxL : Nat} {ret : Option FieldType} {as : List Value} {sz b L : Nat} {xs : Nat → Int32} {mc ms : Nat} (hy : plainName y.cls = true) (hw : ws = Cond.code y cc maxL ret :: ws') (hn : (lg_sl as).length ≤ maxL)
    (body : ∀ (p : Program) (e : Env) (s : State) (m : MethodId) (args : Array Value) (below : List Frame) (meth : Method) (c : Code) (ls : Array Slot), p.tables.exec = Jvm.exec → c.code = cc → meth.sig.returnType = ret → c.maxLocals = maxL → s.vm.findClass y.cls = some m.cls → (∀ w ∈ ws, w.before args s = true) → meth.locks = false → va_X b L xs s s.heap → b < s.heap.size → lv_has ls maxL (lv_args 0 as) → ∀ Q : State → Prop, Q = MQ below (Qf (va_A [] s.heap.size)) args s mc ms (va_A [] s.heap.size) → W p l e rm s m args below meth c s.heap [] 0 0 Q (F0 m 0 ls [])) :
    Met l y ws rm (cPc as sz b L xs) (Qf (va_A [] sz)) mc ms (va_A [] sz) := by
  refine Met.ofW (cc := cc) (maxL := maxL) (ret := ret) hy hw ?_
  intro p e s m args below meth c s₁ B hml hv
  obtain ⟨rfl, hsz, hX, hbl⟩ := hv
  subst hsz
  have hl := lv_entry as (n := maxL) hn
  rw [lg_entry_eq]
  exact body p e s m as.toArray below meth c _ B.exec B.bytes B.returns hml (findClass_of_methodNamed B.named) (atoms_spec (ws := ws) B.pre) B.notSynchronized hX hbl hl _ rfl
def cellv (xs : Nat → Int32) (L k : Nat) : Int32 := (if L ≤ k then 15519431 * (nI k + 3) + 11489 else xs k) &&& 2147483647
theorem and_nn (v : Int32) : ∃ X, X < 2147483648 ∧ v &&& 2147483647 = nI X := by
  obtain ⟨n, hn, rfl⟩ := nI_sur v
  have hle : n &&& 2147483647 ≤ 2147483647 := Nat.and_le_right
  refine ⟨n &&& 2147483647, by omega, ?_⟩
  apply Int32.toBitVec_inj.mp
  apply BitVec.eq_of_toNat_eq
  rw [nI_tn, Int32.toBitVec_and, BitVec.toNat_and, nI_tn, Nat.mod_eq_of_lt hn]
  show n &&& 2147483647 = (n &&& 2147483647) % 4294967296
  omega
theorem cell_nn (xs : Nat → Int32) (L k : Nat) : ∃ X, X < 2147483648 ∧ cellv xs L k = nI X := and_nn _
abbrev rmM_cell : Room := ({ frames := 1, cells := 0, slots := 0, locals := 20 })
set_option maxHeartbeats 4000000 in
theorem kM_cell (l : Launch) (D : va_G) (sz b L : Nat) (xs : Nat → Int32) (k : Int32) (kn : Nat) (hk : k = nI kn) (hkn : kn < 100000) (hL : L ≤ 260) (r : Int32) (hr9 : cellv xs L kn = r) : Met l yL_cell wsL_cell rmM_cell (cPc [.ref b, .int k] sz b L xs) (mQi D r [] (va_A [] sz)) 0 0 (va_A [] sz) := by
  subst hk
  subst hr9
  refine m_ofc (Qf := mQi D (cellv xs L kn) []) (cc := cL_cell) (maxL := 2) (ret := some .int) (by decide) rfl (Nat.le_of_ble_eq_true rfl) ?_
  intro p e s m args below meth c ls hx hb hr hml hown hts hlocks hX hbl hl Q hQ
  have hl : lv_has ls 2 [(0, .ref b), (1, .int (nI kn))] := hl
  have hown : s.vm.findClass RL = some m.cls := hown
  have hS : va_S (va_A [] s.heap.size) s.heap s.heap [] := va_S.rf
  have hbA : ¬ va_A [] s.heap.size b := by
    rintro (⟨k, e, h⟩ | h)
    · simp at h
    · omega
  have hP : va_P D vwCl [] s.heap := fun k q h => by simp at h
  have hD : va_D (va_A [] s.heap.size) [] := ⟨fun i j p q h => by simp at h, fun k q h => by simp at h⟩
  have eL : Int32.ofNat L = nI L := rfl
  have j22 : ∀ v : Int32, v &&& 2147483647 = cellv xs L kn → W p l e rmM_cell s m args below meth c s.heap [] 0 0 Q (F0 m 22 ls [.int v]) := by
    intro v hv
    refine lv_ldc hx hb hown (hts (.constant RL 149 (2147483647)) (List.mem_of_getElem? (i := 2) rfl)) dL_cell_22 ?_
    refine lv_iand hx hb dL_cell_24 ?_
    rw [hv]
    exact rt_i hQ hx hb hr hlocks hP hD hS dL_cell_25
  refine lv_iload_n hx hb dL_cell_0 rfl (lv_at hl 1 rfl) ?_
  refine lv_aload_n hx hb dL_cell_1 rfl (lv_at hl 0 rfl) ?_
  refine va_slen hx hb hX hbl hbA hS dL_cell_2 ?_
  refine lv_icmp_ge (tgt := 12) hx hb dL_cell_3 (by decide) (fun c1 => ?_) (fun c1 => ?_)
  · have hk : L ≤ kn := (m_le (by omega) (by omega)).mp c1
    refine lv_ldc hx hb hown (hts (.constant RL 148 (15519431)) (List.mem_of_getElem? (i := 1) rfl)) dL_cell_12 ?_
    refine lv_iload_n hx hb dL_cell_14 rfl (lv_at hl 1 rfl) ?_
    refine lv_iconst (v := 3) hx hb dL_cell_15 (by decide) ?_
    refine lv_iadd hx hb dL_cell_16 ?_
    refine lv_imul hx hb dL_cell_17 ?_
    refine lv_sipush (v := 11489) hx hb dL_cell_18 (by decide) ?_
    refine lv_iadd hx hb dL_cell_21 ?_
    refine j22 _ ?_
    unfold cellv
    rw [if_pos hk]
  · have hk : kn < L := by
      by_cases z : kn < L
      · exact z
      · exact absurd ((m_le (a := L) (b := kn) (by omega) (by omega)).mpr (by omega)) c1
    refine lv_aload_n hx hb dL_cell_6 rfl (lv_at hl 0 rfl) ?_
    refine lv_iload_n hx hb dL_cell_7 rfl (lv_at hl 1 rfl) ?_
    refine va_sld hx hb hX hbl hbA hS (vp_in_nI hk (by omega)) dL_cell_8 ?_
    refine lv_goto (tgt := 22) hx hb dL_cell_9 (by decide) ?_
    refine j22 _ ?_
    unfold cellv
    rw [if_neg (by omega), m_cl (by omega)]
/-- what cell asks, out of the law's world -/
theorem cell_pre {s : State} {b L : Nat} {xs : Nat → Int32} {H : Heap} {locs : List Loc} {k : Int32} (hX : va_X b L xs s s.heap) (hbl : b < s.heap.size) (hS : va_S (fun q : Nat => s.heap.size ≤ q) s.heap H locs) : ∀ U : State, U.heap = H → s.WarmedH U.vm → cPc [.ref b, .int k] H.size b L xs (([.ref b, .int k] : List Value).toArray) U := by
  intro U hU hW
  refine ⟨rfl, by rw [hU], ?_, Nat.lt_of_lt_of_le hbl hS.1⟩
  rw [hU]
  exact va_X.moved hW.alike (va_X.kept hX (hS.2.1 b hbl (Nat.not_le.mpr hbl)))
