/-! BASE: the words in which every contract here is written, and the rows for calls -/
/-- the environment: what the tables and the start say of nest mates, of the statics that exceptions read, of the string constants -/
def x_msgs : List (String × Nat × String) := [(RX3, 141, "no such number"), (RX3, 148, "no such caterpillar"), (RX3, 151, "no such number of a caterpillar"), (RX3, 157, "it does not lie in so many rooms"), (RX3, 162, "no such room"), (RX3, 164, "no such number of a room"), (RX3, 178, "no such number of a ring"), (RX3, 189, "no caterpillar has this length"), (RX3, 192, "there are as many caterpillars as there can be"), (RX3, 200, "not so many ticks go by at once"), (RX3, 205, "no such rule"), (RX3, 210, "the room is taken"), (RX3, 215, "it is gone or pulled already"), (RX3, 217, "no state is remembered"), (RX3, 266, "a script has 1 to 3 commands"), (RX3, 272, "the script has not the digits of so many commands"), (RX3, 289, "a simulation has 1 to 60 turns"), (RX3, 301, "no such save slot"), (RX3, 303, "nothing has been saved in this slot"), (RX3, 49, "no character has this code"), (RX3, 60, "the text is full"), (RX3, 77, "the text is not a house")]
def EVs (adK adV : Nat → Nat) (A : Nat → Prop) (U : State) (H : Heap) : Prop := True
def EVn (U : State) : Prop := va_Nw (.methodLinkNest RX3 11 yX2_init "LongCaterpillars") U ∧ va_Nw (.methodLinkNest RX3 25 yX1_init "LongCaterpillars") U ∧ va_Nw (.methodLinkNest RX0 66 yX3_isRule "LongCaterpillars") U ∧ va_Nw (.methodLinkNest RX0 31 yX3_isRoom "LongCaterpillars") U ∧ va_Nw (.methodLinkNest RX0 59 yX3_isLength "LongCaterpillars") U ∧ va_Nw (.methodLinkNest RX0 76 yX3_isTicks "LongCaterpillars") U ∧ va_Nw (.fieldLinkNest RX0 30 "LongCaterpillars$Shelf" "cells" "[I" "LongCaterpillars") U
def EVm (U : State) : Prop := ∀ q ∈ x_msgs, ∃ sa, vk_R q.1 q.2.1 q.2.2 sa U
def x_IAE : String := "java/lang/IllegalArgumentException"
def x_ISE : String := "java/lang/IllegalStateException"
def x_IOB : String := "java/lang/IndexOutOfBoundsException"
def EVc (U : State) : Prop := va_Nw (.castable "java/lang/IllegalArgumentException" "java/lang/IllegalArgumentException") U ∧ va_Nw (.castable "java/lang/IllegalStateException" "java/lang/IllegalStateException") U ∧ va_Nw (.castable "java/lang/IndexOutOfBoundsException" "java/lang/IndexOutOfBoundsException") U ∧ va_Nc "java/lang/IllegalStateException" "java/lang/IllegalArgumentException" U ∧ va_Nc "java/lang/IllegalArgumentException" "java/lang/IndexOutOfBoundsException" U ∧ va_Nc "java/lang/IllegalStateException" "java/lang/IndexOutOfBoundsException" U ∧ va_Nw (.declares (Bundle.initS "java/lang/RuntimeException")) U ∧ va_Nw (.declares (Bundle.initS "java/lang/Exception")) U ∧ va_Nw (.declares (Bundle.initS Bundle.tN)) U
def EV (A : Nat → Prop) (U : State) (H : Heap) : Prop := EVn U ∧ vx_Zq Bundle.tN "UNASSIGNED_STACK" Bundle.steD A U H ∧ vx_Zq Bundle.tN "SUPPRESSED_SENTINEL" Bundle.listD A U H ∧ EVm U ∧ EVc U ∧ ∃ adK adV, EVs adK adV A U H
theorem EVn.warm {s U : State} (hW : s.WarmedH U.vm) (h : EVn s) : EVn U := by
  obtain ⟨h1, h2, h3, h4, h5, h6, h7⟩ := h
  exact ⟨va_Nw.warmM hW h1, va_Nw.warmM hW h2, va_Nw.warmM hW h3, va_Nw.warmM hW h4, va_Nw.warmM hW h5, va_Nw.warmM hW h6, va_Nw.warmF hW h7⟩
theorem EVn.same {u U : State} (hv : u.vm = U.vm) (h : EVn u) : EVn U := by
  obtain ⟨h1, h2, h3, h4, h5, h6, h7⟩ := h
  exact ⟨va_Nw.same rfl hv h1, va_Nw.same rfl hv h2, va_Nw.same rfl hv h3, va_Nw.same rfl hv h4, va_Nw.same rfl hv h5, va_Nw.same rfl hv h6, va_Nw.same rfl hv h7⟩
theorem EVm.warm {s U : State} (hW : s.WarmedH U.vm) (h : EVm s) : EVm U := fun q hq => (h q hq).elim fun sa h => ⟨sa, h.warm hW⟩
theorem EVm.same {u U : State} (hv : U.vm = u.vm) (h : EVm u) : EVm U := fun q hq => (h q hq).elim fun sa h => ⟨sa, h.same hv⟩
theorem EVc.warm {s U : State} (hW : s.WarmedH U.vm) (h : EVc s) : EVc U := by
  obtain ⟨h1, h2, h3, h4, h5, h6, h7, h8, h9⟩ := h
  exact ⟨va_Nw.warmC hW h1, va_Nw.warmC hW h2, va_Nw.warmC hW h3, h4.moved hW.alike, h5.moved hW.alike, h6.moved hW.alike, va_Nw.warmD hW h7, va_Nw.warmD hW h8, va_Nw.warmD hW h9⟩
theorem EVc.same {u U : State} (hv : u.vm = U.vm) (h : EVc u) : EVc U := by
  obtain ⟨h1, h2, h3, h4, h5, h6, h7, h8, h9⟩ := h
  have ha : u.vm.Alike U.vm := by rw [hv]; exact Vm.Alike.refl _
  exact ⟨va_Nw.same rfl hv h1, va_Nw.same rfl hv h2, va_Nw.same rfl hv h3, h4.moved ha, h5.moved ha, h6.moved ha, va_Nw.same rfl hv h7, va_Nw.same rfl hv h8, va_Nw.same rfl hv h9⟩
theorem EVs.warm {adK adV : Nat → Nat} {A : Nat → Prop} {s U : State} {H : Heap} (hW : s.WarmedH U.vm) (h : EVs adK adV A s H) : EVs adK adV A U H := trivial
theorem EVs.same {adK adV : Nat → Nat} {A : Nat → Prop} {u U : State} {H : Heap} (hv : U.vm = u.vm) (h : EVs adK adV A u H) : EVs adK adV A U H := trivial
theorem EVs.kept {adK adV : Nat → Nat} {A : Nat → Prop} {U : State} {H H1 : Heap} (h : EVs adK adV A U H) (hq : ∀ a : Nat, a < H.size → ¬ A a → H1[a]? = H[a]?) : EVs adK adV A U H1 := trivial
theorem EVs.narrow {adK adV : Nat → Nat} {A B : Nat → Prop} {U : State} {H : Heap} (h : EVs adK adV A U H) (hAB : ∀ q, B q → A q) : EVs adK adV B U H := trivial
theorem EV.warm {A : Nat → Prop} {s U : State} {H : Heap} (hW : s.WarmedH U.vm) (h : EV A s H) : EV A U H := by
  obtain ⟨h1, h2, h3, h4, hc, adK, adV, h5⟩ := h
  exact ⟨h1.warm hW, h2.moved hW.alike, h3.moved hW.alike, h4.warm hW, hc.warm hW, adK, adV, h5.warm hW⟩
theorem EV.same {A : Nat → Prop} {u U : State} {H : Heap} (hv : U.vm = u.vm) (h : EV A u H) : EV A U H := by
  obtain ⟨h1, h2, h3, h4, hc, adK, adV, h5⟩ := h
  have ha : u.vm.Alike U.vm := by rw [hv]; exact Vm.Alike.refl _
  exact ⟨h1.same hv.symm, h2.moved ha, h3.moved ha, h4.same hv, hc.same hv.symm, adK, adV, h5.same hv⟩
theorem EV.kept {A : Nat → Prop} {U : State} {H H1 : Heap} (h : EV A U H) (hq : ∀ a : Nat, a < H.size → ¬ A a → H1[a]? = H[a]?) : EV A U H1 := by
  obtain ⟨h1, h2, h3, h4, hc, adK, adV, h5⟩ := h
  exact ⟨h1, h2.kept hq, h3.kept hq, h4, hc, adK, adV, h5.kept hq⟩
theorem EV.narrow {A B : Nat → Prop} {U : State} {H : Heap} (h : EV A U H) (hAB : ∀ q, B q → A q) : EV B U H := by
  obtain ⟨h1, h2, h3, h4, hc, adK, adV, h5⟩ := h
  exact ⟨h1, h2.narrow hAB, h3.narrow hAB, h4, hc, adK, adV, h5.narrow hAB⟩
/-- a contract's start -/
def mPc (D : va_G) (ty : List (ClassId × FieldType)) (as : List Value) (sz : Nat) (w0 : va_W) : Array Value → State → Prop := va_Pc as (fun U => U.heap.size = sz ∧ va_P D vwCl w0 U.heap ∧ va_K D vwCl ty U ∧ va_D (fun _ => True) w0 ∧ EV (va_A w0 sz) U U.heap)
/-- its end: the answer, the world -/
def mB (D : va_G) (A : Nat → Prop) (w1 : va_W) : Unit → State → Prop := fun _ t => va_P D vwCl w1 t.heap ∧ va_D A w1
def mQi (D : va_G) (r : Int32) (w1 : va_W) (A : Nat → Prop) : Array Value → State → Outcome → State → Prop := va_Qi (fun (x : Int32) (_ : Unit) => x = r) (mB D A w1) A
def mQl (D : va_G) (r : Int64) (w1 : va_W) (A : Nat → Prop) : Array Value → State → Outcome → State → Prop := va_Ql (fun (x : Int64) (_ : Unit) => x = r) (mB D A w1) A
def mQv (D : va_G) (w1 : va_W) (A : Nat → Prop) : Array Value → State → Outcome → State → Prop := va_Qv (fun (_ : Unit) => True) (mB D A w1) A
abbrev tyK (cI cB cL : ClassId) : List (ClassId × FieldType) := [(cI, .int), (cB, .boolean)]
theorem mPc_blind {D : va_G} {ty : List (ClassId × FieldType)} {as : List Value} {sz : Nat} {w0 : va_W} : FrameBlind (mPc D ty as sz w0) := by
  intro a U g mk q
  obtain ⟨h0, h1, h2, h3, h4, h5⟩ := q
  exact ⟨h0, h1, h2, va_K.moved (u := U) (U := U.calling g mk a) (Vm.Alike.refl U.vm) h3, h4, EV.same (u := U) (U := U.calling g mk a) rfl h5⟩
theorem fm_of_map {α : Type} {ws : List α} {is : List Nat} {wc : List α} (h : is.map (fun i => ws[i]?) = wc.map some) : is.filterMap (fun i => ws[i]?) = wc := by
  have e : is.filterMap (fun i => ws[i]?) = (is.map (fun i => ws[i]?)).filterMap id := by rw [List.filterMap_map]; rfl
  rw [e, h, List.filterMap_map]
  have : (id ∘ some : α → Option α) = some := rfl
  rw [this, List.filterMap_some]
/-- a method that returns: from its entry -/
theorem m_of {l : Launch} {y : MethodName} {ws ws' : List Cond} {rm : Room} {Qf : (Nat → Prop) → Array Value → State → Outcome → State → Prop} {cc : ByteArray} {maxL : Nat} {ret : Option FieldType} {D : va_G} {ty : List (ClassId × FieldType)} {as : List Value} {sz : Nat} {w0 : va_W} {mc ms : Nat} (hy : plainName y.cls = true) (hw : ws = Cond.code y cc maxL ret :: ws') (hn : (lg_sl as).length ≤ maxL)
    (body : ∀ (p : Program) (e : Env) (s : State) (m : MethodId) (args : Array Value) (below : List Frame) (meth : Method) (c : Code) (A : Nat → Prop) (ls : Array Slot), sz = s.heap.size → p.tables.exec = Jvm.exec → c.code = cc → meth.sig.returnType = ret → c.maxLocals = maxL → s.vm.findClass y.cls = some m.cls → (∀ w ∈ ws, w.before args s = true) → meth.locks = false → va_P D vwCl w0 s.heap → va_K D vwCl ty s → va_D A w0 → va_S A s.heap s.heap [] → (∀ q : Nat, s.heap.size ≤ q → A q) → EV A s s.heap → (meth.name = y.name) → lv_has ls maxL (lv_args 0 as) → ∀ Q : State → Prop, Q = MQ below (Qf A) args s mc ms A → W p l e rm s m args below meth c s.heap [] 0 0 Q (F0 m 0 ls [])) :
    Met l y ws rm (mPc D ty as sz w0) (Qf (va_A w0 sz)) mc ms (va_A w0 sz) := by
  refine Met.ofW (cc := cc) (maxL := maxL) (ret := ret) hy hw ?_
  intro p e s m args below meth c s₁ B hml hv
  obtain ⟨rfl, hsz, hP, hK, hD0, hE⟩ := hv
  subst hsz
  have hD := hD0.self (sz := s.heap.size)
  have hA : ∀ q : Nat, s.heap.size ≤ q → va_A w0 s.heap.size q := fun q h => Or.inr h
  have hl := lv_entry as (n := maxL) hn
  rw [lg_entry_eq]
  exact body p e s m as.toArray below meth c (va_A w0 s.heap.size) _ rfl B.exec B.bytes B.returns hml (findClass_of_methodNamed B.named) (atoms_spec (ws := ws) B.pre) B.notSynchronized hP hK hD va_S.rf hA hE (name_of_methodNamed B.named B.method).1 hl _ rfl
section XB
variable {p : Program} {l : Launch} {e : Env} {R : Room} {s : State} {m : MethodId} {args : Array Value} {below : List Frame} {meth : Method} {c : Code} {H : Heap} {locs : List Loc} {cells slots : Nat} {Q : State → Prop}
variable {D : va_G} {ty : List (ClassId × FieldType)} {A : Nat → Prop} {ws wc wr w1 ws' : va_W}
theorem EV.call {U : State} (hE : EV A s s.heap) (hS : va_S A s.heap H locs) (hF : ∀ q, va_A wc H.size q → A q) (hU : U.heap = H) (hW : s.WarmedH U.vm) : EV (va_A wc H.size) U U.heap := by
  rw [hU]
  exact EV.warm hW (EV.narrow (EV.kept hE hS.2.1) hF)
/-- what a callee's contract asks, of a part of the caller's world -/
theorem pre_U {as : List Value} (hK : va_K D vwCl ty s) (hE : EV A s s.heap) (hP : va_P D vwCl ws H) (hD : va_D A ws) (hS : va_S A s.heap H locs) (hA : ∀ q : Nat, s.heap.size ≤ q → A q) (isC : List Nat) (hC : isC.map (fun i => ws[i]?) = wc.map some) (hn : va_nd isC = true) : ∀ U : State, U.heap = H → s.WarmedH U.vm → mPc D ty as H.size wc as.toArray U := by
  intro U hU hW
  have hPc : va_P D vwCl wc H := hP.sub isC (fm_of_map hC)
  have hDc : va_D A wc := hD.sub isC hn hC
  exact ⟨rfl, by rw [hU], by rw [hU]; exact hPc, va_K.moved hW.alike hK, hDc.weaken (fun _ _ _ _ => trivial), EV.call hE hS (va_free hD hS hA isC hC) hU hW⟩
theorem pre_V {C : String} {b ci q0 : Nat} {T : u_T} {N : Nat} {fs : List Value} {As : List Value} (hK : va_K D vwCl ty s) (hE : EV A s s.heap) (hP : va_P D vwCl ws H) (hD : va_D A ws) (hS : va_S A s.heap H locs) (hA : ∀ q : Nat, s.heap.size ≤ q → A q) (isC : List Nat) (hC : isC.map (fun i => ws[i]?) = wc.map some) (hn : va_nd isC = true) (hcl : vwCl[ci]? = some (C, T, N)) (hq : wc[q0]? = some (b, .inr (ci, fs))) :
    PreV s H C b (mPc D ty (Value.ref b :: As) H.size wc) As :=
  ⟨mPc_blind, va_recv (q := (C, T, N)) hK (hP.sub isC (fm_of_map hC)) hcl hq, pre_U hK hE hP hD hS hA isC hC hn⟩
theorem pre_S {As : List Value} (hK : va_K D vwCl ty s) (hE : EV A s s.heap) (hP : va_P D vwCl ws H) (hD : va_D A ws) (hS : va_S A s.heap H locs) (hA : ∀ q : Nat, s.heap.size ≤ q → A q) (isC : List Nat) (hC : isC.map (fun i => ws[i]?) = wc.map some) (hn : va_nd isC = true) :
    PreS s H (mPc D ty As H.size wc) As :=
  ⟨mPc_blind, pre_U hK hE hP hD hS hA isC hC hn⟩
theorem cl_world {t : State} {H1 : Heap} (hP : va_P D vwCl ws H) (hD : va_D A ws) (hS : va_S A s.heap H locs) (hA : ∀ q : Nat, s.heap.size ≤ q → A q) {isC isR isP : List Nat} (hC : isC.map (fun i => ws[i]?) = wc.map some) (hR : isR.map (fun i => ws[i]?) = wr.map some) (hn : va_nd isR = true) (hdis : ∀ i ∈ isR, i ∉ isC) (hPm : isP.map (fun i => (wr ++ w1)[i]?) = ws'.map some) (hnp : va_nd isP = true)
    (ht : t.heap = H1) (hB : mB D (va_A wc H.size) w1 () t) (hk1 : ∀ q : Nat, q < H.size → ¬ va_A wc H.size q → H1[q]? = H[q]?) : va_P D vwCl ws' H1 ∧ va_D A ws' := by
  obtain ⟨hP1, hD1⟩ := hB
  rw [ht] at hP1
  obtain ⟨g1, g2⟩ := va_join hP hD isC isR hC hR hn hdis hk1 (va_free hD hS hA isC hC) hP1 hD1
  exact ⟨g1.sub isP (fm_of_map hPm), g2.sub isP hnp hPm⟩
theorem cl_i {r : Int32} {pc : Nat} {ls : Array Slot} {st0 rest : List Value} {a : Array Value} (hP : va_P D vwCl ws H) (hD : va_D A ws) (hS : va_S A s.heap H locs) (hA : ∀ q : Nat, s.heap.size ≤ q → A q) (isC isR isP : List Nat) (hC : isC.map (fun i => ws[i]?) = wc.map some) (hR : isR.map (fun i => ws[i]?) = wr.map some) (hn : va_nd isR = true) (hdis : ∀ i ∈ isR, i ∉ isC) (hPm : isP.map (fun i => (wr ++ w1)[i]?) = ws'.map some) (hnp : va_nd isP = true)
    (hr : va_Run p l e R s m args below meth c H locs cells slots 0 0 (F0 m pc ls st0) rest (mQi D r w1 (va_A wc H.size) a) (va_A wc H.size))
    (kk : ∀ (H1 : Heap) (locs1 : List Loc), va_P D vwCl ws' H1 → va_D A ws' → va_S A s.heap H1 locs1 → W p l e R s m args below meth c H1 locs1 cells slots Q (F0 m (pc + 3) ls (.int r :: rest))) : W p l e R s m args below meth c H locs cells slots Q (F0 m pc ls st0) := by
  refine va_calli hr hS (fun q _ h => va_free hD hS hA isC hC q h) (va_free hD hS hA isC hC) (fun r1 u t H1 locs1 ht hvm hp hB hz hk hS1 => ?_)
  obtain ⟨g1, g2⟩ := cl_world hP hD hS hA hC hR hn hdis hPm hnp ht hB hk
  rw [show r1 = r from hp]
  exact kk H1 locs1 g1 g2 hS1
theorem cl_l {r : Int64} {pc : Nat} {ls : Array Slot} {st0 rest : List Value} {a : Array Value} (hP : va_P D vwCl ws H) (hD : va_D A ws) (hS : va_S A s.heap H locs) (hA : ∀ q : Nat, s.heap.size ≤ q → A q) (isC isR isP : List Nat) (hC : isC.map (fun i => ws[i]?) = wc.map some) (hR : isR.map (fun i => ws[i]?) = wr.map some) (hn : va_nd isR = true) (hdis : ∀ i ∈ isR, i ∉ isC) (hPm : isP.map (fun i => (wr ++ w1)[i]?) = ws'.map some) (hnp : va_nd isP = true)
    (hr : va_Run p l e R s m args below meth c H locs cells slots 0 0 (F0 m pc ls st0) rest (mQl D r w1 (va_A wc H.size) a) (va_A wc H.size))
    (kk : ∀ (H1 : Heap) (locs1 : List Loc), va_P D vwCl ws' H1 → va_D A ws' → va_S A s.heap H1 locs1 → W p l e R s m args below meth c H1 locs1 cells slots Q (F0 m (pc + 3) ls (.long r :: rest))) : W p l e R s m args below meth c H locs cells slots Q (F0 m pc ls st0) := by
  refine va_calll hr hS (fun q _ h => va_free hD hS hA isC hC q h) (va_free hD hS hA isC hC) (fun r1 u t H1 locs1 ht hvm hp hB hz hk hS1 => ?_)
  obtain ⟨g1, g2⟩ := cl_world hP hD hS hA hC hR hn hdis hPm hnp ht hB hk
  rw [show r1 = r from hp]
  exact kk H1 locs1 g1 g2 hS1
theorem cl_v {pc : Nat} {ls : Array Slot} {st0 rest : List Value} {a : Array Value} (hP : va_P D vwCl ws H) (hD : va_D A ws) (hS : va_S A s.heap H locs) (hA : ∀ q : Nat, s.heap.size ≤ q → A q) (isC isR isP : List Nat) (hC : isC.map (fun i => ws[i]?) = wc.map some) (hR : isR.map (fun i => ws[i]?) = wr.map some) (hn : va_nd isR = true) (hdis : ∀ i ∈ isR, i ∉ isC) (hPm : isP.map (fun i => (wr ++ w1)[i]?) = ws'.map some) (hnp : va_nd isP = true)
    (hr : va_Run p l e R s m args below meth c H locs cells slots 0 0 (F0 m pc ls st0) rest (mQv D w1 (va_A wc H.size) a) (va_A wc H.size))
    (kk : ∀ (H1 : Heap) (locs1 : List Loc), va_P D vwCl ws' H1 → va_D A ws' → va_S A s.heap H1 locs1 → W p l e R s m args below meth c H1 locs1 cells slots Q (F0 m (pc + 3) ls rest)) : W p l e R s m args below meth c H locs cells slots Q (F0 m pc ls st0) := by
  refine va_callv hr hS (fun q _ h => va_free hD hS hA isC hC q h) (va_free hD hS hA isC hC) (fun u t H1 locs1 ht hvm hp hB hz hk hS1 => ?_)
  obtain ⟨g1, g2⟩ := cl_world hP hD hS hA hC hR hn hdis hPm hnp ht hB hk
  exact kk H1 locs1 g1 g2 hS1
variable {cc : ByteArray} {pc : Nat} {ls : Array Slot}
theorem rt_i {r : Int32} (hQ : Q = MQ below (mQi D r ws A) args s 0 0 A) (hx : p.tables.exec = Jvm.exec) (hb : c.code = cc) (hr : meth.sig.returnType = some .int) (hlocks : meth.locks = false) (hP : va_P D vwCl ws H) (hD : va_D A ws) (hS : va_S A s.heap H locs) (hdg : decode cc pc = .ok (.ireturn, 1)) : W p l e R s m args below meth c H locs 0 0 Q (F0 m pc ls [.int r]) := by
  rw [hQ]
  exact   W.iret (v := r) hx hb hr (fun t ht hW => ⟨⟨r, (), rfl, rfl, by rw [ht]; exact hP, hD⟩, hS.F ht⟩) hS.2.2 hdg
theorem rt_z {r : Int32} (hQ : Q = MQ below (mQi D r ws A) args s 0 0 A) (hx : p.tables.exec = Jvm.exec) (hb : c.code = cc) (hr : meth.sig.returnType = some .boolean) (hn : narrow .boolean (.int r) = .int r) (hlocks : meth.locks = false) (hP : va_P D vwCl ws H) (hD : va_D A ws) (hS : va_S A s.heap H locs) (hdg : decode cc pc = .ok (.ireturn, 1)) : W p l e R s m args below meth c H locs 0 0 Q (F0 m pc ls [.int r]) := by
  rw [hQ]
  exact   W.zret (v := r) hx hb hr hn (fun t ht hW => ⟨⟨r, (), rfl, rfl, by rw [ht]; exact hP, hD⟩, hS.F ht⟩) hS.2.2 hdg
theorem rt_l {r : Int64} (hQ : Q = MQ below (mQl D r ws A) args s 0 0 A) (hx : p.tables.exec = Jvm.exec) (hb : c.code = cc) (hr : meth.sig.returnType = some .long) (hlocks : meth.locks = false) (hP : va_P D vwCl ws H) (hD : va_D A ws) (hS : va_S A s.heap H locs) (hdg : decode cc pc = .ok (.lreturn, 1)) : W p l e R s m args below meth c H locs 0 0 Q (F0 m pc ls [.long r]) := by
  rw [hQ]
  exact   W.lret (v := r) hx hb hr (fun t ht hW => ⟨⟨r, (), rfl, rfl, by rw [ht]; exact hP, hD⟩, hS.F ht⟩) hS.2.2 hdg
theorem rt_v (hQ : Q = MQ below (mQv D ws A) args s 0 0 A) (hx : p.tables.exec = Jvm.exec) (hb : c.code = cc) (hr : meth.sig.returnType = none) (hlocks : meth.locks = false) (hP : va_P D vwCl ws H) (hD : va_D A ws) (hS : va_S A s.heap H locs) (hdg : decode cc pc = .ok (.return_, 1)) : W p l e R s m args below meth c H locs 0 0 Q (F0 m pc ls []) := by
  rw [hQ]
  exact   W.vret hx hb hr (fun t ht hW => ⟨⟨(), rfl, trivial, by rw [ht]; exact hP, hD⟩, hS.F ht⟩) hS.2.2 hdg
variable {rest : List Value} {a : Addr}
theorem vl {i : Int32} {n : Nat} (h : decide (¬ (i < 0 ∨ n ≤ i.toNatClampNeg)) = true) : vp_in i n := by
  have g : ¬ (i < 0 ∨ n ≤ i.toNatClampNeg) := of_decide_eq_true h
  exact g
theorem x_iald (hexec : p.tables.exec = Jvm.exec) (hb : c.code = cc) (hK : va_K D vwCl ty s) (hP : va_P D vwCl ws H) (q0 t0 : Nat) {cA : ClassId} {n : Nat} {f : Nat → Int32} (ha : ws[q0]? = some (a, .inl (cA, n, .inl f))) (ht : ty[t0]? = some (cA, .int)) {i : Int32} (hin : vp_in i n) (k : Nat) (hk : i.toNatClampNeg = k) (hdg : decode cc pc = .ok (.iaload, 1))
    (kk : W p l e R s m args below meth c H locs cells slots Q (F0 m (pc + 1) ls (.int (f k) :: rest))) : W p l e R s m args below meth c H locs cells slots Q (F0 m pc ls (.int i :: .ref a :: rest)) :=
  va_iald hexec hb hK hP q0 t0 ha ht hin hdg (by rw [hk]; exact kk)
theorem x_zald (hexec : p.tables.exec = Jvm.exec) (hb : c.code = cc) (hK : va_K D vwCl ty s) (hP : va_P D vwCl ws H) (q0 t0 : Nat) {cA : ClassId} {n : Nat} {f : Nat → Int32} (ha : ws[q0]? = some (a, .inl (cA, n, .inl f))) (ht : ty[t0]? = some (cA, .boolean)) {i : Int32} (hin : vp_in i n) (k : Nat) (hk : i.toNatClampNeg = k) (hdg : decode cc pc = .ok (.baload, 1))
    (kk : W p l e R s m args below meth c H locs cells slots Q (F0 m (pc + 1) ls (.int (f k) :: rest))) : W p l e R s m args below meth c H locs cells slots Q (F0 m pc ls (.int i :: .ref a :: rest)) :=
  va_zald hexec hb hK hP q0 t0 ha ht hin hdg (by rw [hk]; exact kk)
theorem x_iast (hexec : p.tables.exec = Jvm.exec) (hb : c.code = cc) (hK : va_K D vwCl ty s) (hP : va_P D vwCl ws H) (hD : va_D A ws) (hS : va_S A s.heap H locs) (q0 t0 : Nat) {cA : ClassId} {n : Nat} {f : Nat → Int32} (ha : ws[q0]? = some (a, .inl (cA, n, .inl f))) (ht : ty[t0]? = some (cA, .int)) {i : Int32} {x : Int32} (hin : vp_in i n) (k : Nat) (hk : i.toNatClampNeg = k) (ws' : va_W) (hw : ws.set q0 (a, .inl (cA, n, .inl (upd f k x))) = ws') (hdg : decode cc pc = .ok (.iastore, 1))
    (kk : ∀ (H1 : Heap) (locs1 : List Loc), va_P D vwCl ws' H1 → va_D A ws' → va_S A s.heap H1 locs1 → W p l e R s m args below meth c H1 locs1 cells slots Q (F0 m (pc + 1) ls rest)) : W p l e R s m args below meth c H locs cells slots Q (F0 m pc ls (.int x :: .int i :: .ref a :: rest)) := by
  subst hk
  subst hw
  exact va_iast hexec hb hK hP hD hS q0 t0 ha ht hin hdg kk
theorem x_zast (hexec : p.tables.exec = Jvm.exec) (hb : c.code = cc) (hK : va_K D vwCl ty s) (hP : va_P D vwCl ws H) (hD : va_D A ws) (hS : va_S A s.heap H locs) (q0 t0 : Nat) {cA : ClassId} {n : Nat} {f : Nat → Int32} (ha : ws[q0]? = some (a, .inl (cA, n, .inl f))) (ht : ty[t0]? = some (cA, .boolean)) {i : Int32} {x : Int32} (hin : vp_in i n) (k : Nat) (hk : i.toNatClampNeg = k) (hn : vp_nar .boolean x = x) (ws' : va_W) (hw : ws.set q0 (a, .inl (cA, n, .inl (upd f k x))) = ws') (hdg : decode cc pc = .ok (.bastore, 1))
    (kk : ∀ (H1 : Heap) (locs1 : List Loc), va_P D vwCl ws' H1 → va_D A ws' → va_S A s.heap H1 locs1 → W p l e R s m args below meth c H1 locs1 cells slots Q (F0 m (pc + 1) ls rest)) : W p l e R s m args below meth c H locs cells slots Q (F0 m pc ls (.int x :: .int i :: .ref a :: rest)) := by
  subst hk
  subst hw
  refine va_zast hexec hb hK hP hD hS q0 t0 ha ht hin hdg ?_
  rw [hn]
  exact kk
theorem sw_ne {x k : Int32} (z : Int) (h : ¬ x = k) (hk : k.toInt = z) : x.toInt ≠ z := by
  intro e
  exact h (Int32.toInt_inj.mp (e.trans hk.symm))
end XB
/-! methods that throw -/
def exN (k : Nat) : String := if k = 1 then "java/lang/IllegalArgumentException" else if k = 2 then "java/lang/IllegalStateException" else "java/lang/IndexOutOfBoundsException"
def xX (D : va_G) (w0 : va_W) (P : String → Prop) (A : Nat → Prop) : String → State → State → Prop := vx_X (fun _ : Unit => True) (fun E _ t => P E ∧ va_P D vwCl w0 t.heap ∧ va_D A w0) A
def xQ {S : Type} (D : va_G) (post : Int32 → S → Prop) (w1 : S → va_W) (A : Nat → Prop) : Array Value → State → Outcome → State → Prop := va_Qi post (fun u t => va_P D vwCl (w1 u) t.heap ∧ va_D A (w1 u)) A
def x_ng (cls : String) : List Cond := [Cond.castable cls cls, .declares (Bundle.initS "java/lang/RuntimeException"), .declares (Bundle.initS "java/lang/Exception"), .declares (Bundle.initS Bundle.tN)]
abbrev x_names : List String := ["java/lang/RuntimeException", "java/lang/Exception"]
theorem m_ofx {l : Launch} {y : MethodName} {ws ws' : List Cond} {rm : Room} {Qf : (Nat → Prop) → Array Value → State → Outcome → State → Prop} {Xf : (Nat → Prop) → String → State → State → Prop} {cc : ByteArray} {maxL : Nat} {ret : Option FieldType} {D : va_G} {ty : List (ClassId × FieldType)} {as : List Value} {sz : Nat} {w0 : va_W} {mc ms : Nat} (hy : plainName y.cls = true) (hw : ws = Cond.code y cc maxL ret :: ws') (hn : (lg_sl as).length ≤ maxL)
    (body : ∀ (p : Program) (e : Env) (s : State) (m : MethodId) (args : Array Value) (below : List Frame) (meth : Method) (c : Code) (A : Nat → Prop) (ls : Array Slot), sz = s.heap.size → p.tables.exec = Jvm.exec → c.code = cc → meth.sig.returnType = ret → c.maxLocals = maxL → s.vm.findClass y.cls = some m.cls → (∀ w ∈ ws, w.before args s = true) → meth.locks = false → va_P D vwCl w0 s.heap → va_K D vwCl ty s → va_D A w0 → va_S A s.heap s.heap [] → (∀ q : Nat, s.heap.size ≤ q → A q) → EV A s s.heap → (∀ x ∈ c.exceptionTable.toList, False) → lv_has ls maxL (lv_args 0 as) → ∀ Q : State → Prop, Q = vx_MQ below (Qf A) (Xf A) args s mc ms A → W p l e rm s m args below meth c s.heap [] 0 0 Q (F0 m 0 ls [])) :
    vx_Met l y ws rm (mPc D ty as sz w0) (Qf (va_A w0 sz)) (Xf (va_A w0 sz)) mc ms (va_A w0 sz) := by
  refine vx_ofW (cc := cc) (maxL := maxL) (ret := ret) hy hw ?_
  intro p e s m args below meth c s₁ B hml hout hv
  obtain ⟨rfl, hsz, hP, hK, hD0, hE⟩ := hv
  subst hsz
  have hD := hD0.self (sz := s.heap.size)
  have hA : ∀ q : Nat, s.heap.size ≤ q → va_A w0 s.heap.size q := fun q h => Or.inr h
  have hl := lv_entry as (n := maxL) hn
  rw [lg_entry_eq]
  exact body p e s m as.toArray below meth c (va_A w0 s.heap.size) _ rfl B.exec B.bytes B.returns hml (findClass_of_methodNamed B.named) (atoms_spec (ws := ws) B.pre) B.notSynchronized hP hK hD va_S.rf hA hE hout hl _ rfl
section XT
variable {p : Program} {l : Launch} {e : Env} {R : Room} {s : State} {m : MethodId} {args : Array Value} {below : List Frame} {meth : Method} {c : Code} {H : Heap} {locs : List Loc} {Q : State → Prop}
variable {D : va_G} {ty : List (ClassId × FieldType)} {A : Nat → Prop} {ws w0 : va_W} {cc : ByteArray} {pc : Nat} {ls : Array Slot}
theorem rt_ix {S : Type} {post : Int32 → S → Prop} {w1 : S → va_W} {XC : String → State → State → Prop} {r : Int32} (u : S) (hQ : Q = vx_MQ below (xQ D post w1 A) XC args s 1 6 A) (hp : post r u) (hx : p.tables.exec = Jvm.exec) (hb : c.code = cc) (hr : meth.sig.returnType = some .int) (hlocks : meth.locks = false) (hP : va_P D vwCl (w1 u) H) (hD : va_D A (w1 u)) (hS : va_S A s.heap H locs) (hdg : decode cc pc = .ok (.ireturn, 1)) : W p l e R s m args below meth c H locs 0 0 Q (F0 m pc ls [.int r]) := by
  rw [hQ]
  refine vx_ret ?_
  refine W.widen (k := 1) (n := 6) (by decide) (by decide) ?_
  exact W.iret (v := r) hx hb hr (fun t ht hW => ⟨⟨r, u, rfl, hp, by rw [ht]; exact hP, hD⟩, hS.F ht⟩) hS.2.2 hdg
theorem xX_of {P : String → Prop} {cls : String} (hP1 : P cls) (hP : va_P D vwCl w0 H) (hD : va_D A w0) (hS : va_S A s.heap H locs) : ∀ t : State, s.vm.Alike t.vm → H.size ≤ t.heap.size → (∀ q : Nat, q < H.size → t.heap[q]? = H[q]?) → xX D w0 P A cls s t := by
  intro t _ hz hk
  refine ⟨(), trivial, ⟨hP1, hP.kept fun k q hq => hk q.1 (hP k q hq).lt, hD⟩, Nat.le_trans hS.1 hz, fun q h1 h2 => ?_⟩
  rw [hk q (Nat.lt_of_lt_of_le h1 hS.1)]
  exact hS.2.1 q h1 h2
theorem rx_throw {P : String → Prop} {Qc : Array Value → State → Outcome → State → Prop} {own cls text : String} {ik is ic : Nat} (hQ : Q = vx_MQ below Qc (xX D w0 P A) args s 1 6 A) (hP1 : P cls) (hx : p.tables.exec = Jvm.exec) (hb : c.code = cc) (hlt : l.stackTraces = false) (hown : s.vm.findClass own = some m.cls) (hcls : Bundle.fit cls = true) (hk : (Cond.classLink own ik cls).before args s = true) (hini : (Cond.initialized cls).before args s = true) (hE : EV A s s.heap) (hmsg : (own, is, text) ∈ x_msgs)
    (hat : ∀ w ∈ (vx_atS own ic cls x_names).filter goodWord, w.before args s = true) (hng : ∀ w ∈ (vx_atS own ic cls x_names).filter (fun w => !goodWord w), w ∈ x_ng cls) (hca : va_Nw (.castable cls cls) s) (hgood : ∀ w ∈ Cond.classLink own ik cls :: Cond.initialized cls :: vx_atS own ic cls x_names, vx_ot w = true)
    (hP : va_P D vwCl w0 H) (hD : va_D A w0) (hS : va_S A s.heap H locs) (hsize : ls.size = c.maxLocals) (hout : ∀ x ∈ c.exceptionTable.toList, False) (hlocks : meth.locks = false)
    (hR : 5 < R.frames ∧ 82 ≤ R.locals ∧ 1 ≤ R.cells ∧ 6 ≤ R.slots)
    (d0 : decode cc pc = .ok (.new ik, 3)) (d3 : decode cc (pc + 3) = .ok (.dup, 1)) (d4 : decode cc (pc + 4) = .ok (.ldc is, 2)) (d6 : decode cc (pc + 6) = .ok (.invokespecial ic, 3)) (d9 : decode cc (pc + 9) = .ok (.athrow, 1)) : W p l e R s m args below meth c H locs 0 0 Q (F0 m pc ls []) := by
  obtain ⟨-, hU, hN, hm, hc9, -⟩ := hE
  obtain ⟨sa, hsa⟩ := hm _ hmsg
  rw [hQ]
  exact vx_throwS hx hb hlt hown hcls (by decide) hk hini hsa (vx_hat hat hng (vx_c (va_Nw.use rfl hca) (vx_c (va_Nw.use rfl hc9.2.2.2.2.2.2.1) (vx_c (va_Nw.use rfl hc9.2.2.2.2.2.2.2.1) (vx_c (va_Nw.use rfl hc9.2.2.2.2.2.2.2.2) vx_n))))) hgood hU hN hS hsize d0 d3 d4 d6 d9 (fun x h => (hout x h).elim) hR.1 hR.2.1 hR.2.2.1 hR.2.2.2 hlocks (xX_of hP1 hP hD hS) hS.2.2 (by decide) (by decide)
theorem rx_throwW {P : String → Prop} {Qc : Array Value → State → Outcome → State → Prop} {own cls text : String} {ik is ic : Nat} (hQ : Q = vx_MQ below Qc (xX D w0 P A) args s 1 6 A) (hP1 : P cls) (hx : p.tables.exec = Jvm.exec) (hb : c.code = cc) (hlt : l.stackTraces = false) (hown : s.vm.findClass own = some m.cls) (hcls : Bundle.fit cls = true) (hk : (Cond.classLink own ik cls).before args s = true) (hini : (Cond.initialized cls).before args s = true) (hE : EV A s s.heap) (hmsg : (own, is, text) ∈ x_msgs)
    (hat : ∀ w ∈ (vx_atS own ic cls x_names).filter goodWord, w.before args s = true) (hng : ∀ w ∈ (vx_atS own ic cls x_names).filter (fun w => !goodWord w), w ∈ x_ng cls) (hca : va_Nw (.castable cls cls) s) (hgood : ∀ w ∈ Cond.classLink own ik cls :: Cond.initialized cls :: vx_atS own ic cls x_names, vx_ot w = true)
    (hP : va_P D vwCl w0 H) (hD : va_D A w0) (hS : va_S A s.heap H locs) (hsize : ls.size = c.maxLocals) (hout : ∀ x ∈ c.exceptionTable.toList, False) (hlocks : meth.locks = false)
    (hR : 5 < R.frames ∧ 82 ≤ R.locals ∧ 1 ≤ R.cells ∧ 6 ≤ R.slots)
    (d0 : decode cc pc = .ok (.new ik, 3)) (d3 : decode cc (pc + 3) = .ok (.dup, 1)) (d4 : decode cc (pc + 4) = .ok (.ldc_w is, 3)) (d7 : decode cc (pc + 7) = .ok (.invokespecial ic, 3)) (d10 : decode cc (pc + 10) = .ok (.athrow, 1)) : W p l e R s m args below meth c H locs 0 0 Q (F0 m pc ls []) := by
  obtain ⟨-, hU, hN, hm, hc9, -⟩ := hE
  obtain ⟨sa, hsa⟩ := hm _ hmsg
  rw [hQ]
  exact vx_throwSW hx hb hlt hown hcls (by decide) hk hini hsa (vx_hat hat hng (vx_c (va_Nw.use rfl hca) (vx_c (va_Nw.use rfl hc9.2.2.2.2.2.2.1) (vx_c (va_Nw.use rfl hc9.2.2.2.2.2.2.2.1) (vx_c (va_Nw.use rfl hc9.2.2.2.2.2.2.2.2) vx_n))))) hgood hU hN hS hsize d0 d3 d4 d7 d10 (fun x h => (hout x h).elim) hR.1 hR.2.1 hR.2.2.1 hR.2.2.2 hlocks (xX_of hP1 hP hD hS) hS.2.2 (by decide) (by decide)
theorem rt_tz {r : Int32} {w1 : va_W} {T T6 cells slots : Nat} (hQ : Q = MQ below (mQi D r w1 A) args s T T6 A) (h1 : cells ≤ T) (h2 : slots ≤ T6) (hx : p.tables.exec = Jvm.exec) (hb : c.code = cc) (hr : meth.sig.returnType = some .boolean) (hn : narrow .boolean (.int r) = .int r) (hlocks : meth.locks = false) (hP : va_P D vwCl w1 H) (hD : va_D A w1) (hS : va_S A s.heap H locs) (hdg : decode cc pc = .ok (.ireturn, 1)) : W p l e R s m args below meth c H locs cells slots Q (F0 m pc ls [.int r]) := by
  rw [hQ]
  refine W.widen (k := T) (n := T6) h1 h2 ?_
  exact W.zret (v := r) hx hb hr hn (fun t ht hW => ⟨⟨r, (), rfl, rfl, by rw [ht]; exact hP, hD⟩, hS.F ht⟩) hS.2.2 hdg
theorem rt_ti {r : Int32} {w1 : va_W} {T T6 cells slots : Nat} (hQ : Q = MQ below (mQi D r w1 A) args s T T6 A) (h1 : cells ≤ T) (h2 : slots ≤ T6) (hx : p.tables.exec = Jvm.exec) (hb : c.code = cc) (hr : meth.sig.returnType = some .int) (hlocks : meth.locks = false) (hP : va_P D vwCl w1 H) (hD : va_D A w1) (hS : va_S A s.heap H locs) (hdg : decode cc pc = .ok (.ireturn, 1)) : W p l e R s m args below meth c H locs cells slots Q (F0 m pc ls [.int r]) := by
  rw [hQ]
  refine W.widen (k := T) (n := T6) h1 h2 ?_
  exact W.iret (v := r) hx hb hr (fun t ht hW => ⟨⟨r, (), rfl, rfl, by rw [ht]; exact hP, hD⟩, hS.F ht⟩) hS.2.2 hdg
theorem cl_im {wc wr w1 ws' : va_W} {cells slots : Nat} {pc : Nat} {rest : List Value} {mc ms : Nat} {r : Int32} {st0 : List Value} {a : Array Value} (hP : va_P D vwCl ws H) (hD : va_D A ws) (hS : va_S A s.heap H locs) (hA : ∀ q : Nat, s.heap.size ≤ q → A q) (isC isR isP : List Nat) (hC : isC.map (fun i => ws[i]?) = wc.map some) (hR : isR.map (fun i => ws[i]?) = wr.map some) (hn : va_nd isR = true) (hdis : ∀ i ∈ isR, i ∉ isC) (hPm : isP.map (fun i => (wr ++ w1)[i]?) = ws'.map some) (hnp : va_nd isP = true)
    (hr : va_Run p l e R s m args below meth c H locs cells slots mc ms (F0 m pc ls st0) rest (mQi D r w1 (va_A wc H.size) a) (va_A wc H.size))
    (kk : ∀ (H1 : Heap) (locs1 : List Loc), va_P D vwCl ws' H1 → va_D A ws' → va_S A s.heap H1 locs1 → W p l e R s m args below meth c H1 locs1 (cells + mc) (slots + ms) Q (F0 m (pc + 3) ls (.int r :: rest))) : W p l e R s m args below meth c H locs cells slots Q (F0 m pc ls st0) := by
  refine va_calli hr hS (fun q _ h => va_free hD hS hA isC hC q h) (va_free hD hS hA isC hC) (fun r1 u t H1 locs1 ht hvm hp hB hz hk hS1 => ?_)
  obtain ⟨g1, g2⟩ := cl_world hP hD hS hA hC hR hn hdis hPm hnp ht hB hk
  rw [show r1 = r from hp]
  exact kk H1 locs1 g1 g2 hS1
theorem arr_same {cI cB cL cA : ClassId} (h : va_K D vwCl (tyK cI cB cL ++ [(cA, .int)]) s) : cA = cI := by
  have h1 := (h.2 0 _ rfl).2
  have h2 := (h.2 2 _ rfl).2
  exact Option.some.inj (h2.symm.trans h1)
theorem arr_sameZ {cI cB cL cA : ClassId} (h : va_K D vwCl (tyK cI cB cL ++ [(cA, .boolean)]) s) : cA = cB := by
  have h1 := (h.2 1 _ rfl).2
  have h2 := (h.2 2 _ rfl).2
  exact Option.some.inj (h2.symm.trans h1)
/-- a helper of the law: one cell of six slots may be new -/
theorem rt_h {r : Int32} {w1 : va_W} (hQ : Q = MQ below (mQi D r w1 A) args s 1 6 A) (hx : p.tables.exec = Jvm.exec) (hb : c.code = cc) (hr : meth.sig.returnType = some .int) (hlocks : meth.locks = false) (hP : va_P D vwCl w1 H) (hD : va_D A w1) (hS : va_S A s.heap H locs) (hdg : decode cc pc = .ok (.ireturn, 1)) : W p l e R s m args below meth c H locs 1 6 Q (F0 m pc ls [.int r]) := by
  rw [hQ]
  exact W.iret (v := r) hx hb hr (fun t ht hW => ⟨⟨r, (), rfl, rfl, by rw [ht]; exact hP, hD⟩, hS.F ht⟩) hS.2.2 hdg
variable {wc wr : va_W}
theorem cl_worldx {w1 ws' : va_W} {t : State} {H1 : Heap} (hP : va_P D vwCl ws H) (hD : va_D A ws) (hS : va_S A s.heap H locs) (hA : ∀ q : Nat, s.heap.size ≤ q → A q) {isC isR isP : List Nat} (hC : isC.map (fun i => ws[i]?) = wc.map some) (hR : isR.map (fun i => ws[i]?) = wr.map some) (hn : va_nd isR = true) (hdis : ∀ i ∈ isR, i ∉ isC) (hPm : isP.map (fun i => (wr ++ w1)[i]?) = ws'.map some) (hnp : va_nd isP = true)
    (ht : t.heap = H1) (hP1 : va_P D vwCl w1 t.heap) (hD1 : va_D (va_A wc H.size) w1) (hk1 : ∀ q : Nat, q < H.size → ¬ va_A wc H.size q → H1[q]? = H[q]?) : va_P D vwCl ws' H1 ∧ va_D A ws' := by
  rw [ht] at hP1
  obtain ⟨g1, g2⟩ := va_join hP hD isC isR hC hR hn hdis hk1 (va_free hD hS hA isC hC) hP1 hD1
  exact ⟨g1.sub isP (fm_of_map hPm), g2.sub isP hnp hPm⟩
theorem cl_xr {S : Type} {post : Int32 → S → Prop} {P : String → Prop} {w1 ws' : S → va_W} {rest st0 : List Value} {a : Array Value} (hP : va_P D vwCl ws H) (hD : va_D A ws) (hS : va_S A s.heap H locs) (hA : ∀ q : Nat, s.heap.size ≤ q → A q) (isC isR isP : List Nat) (hC : isC.map (fun i => ws[i]?) = wc.map some) (hR : isR.map (fun i => ws[i]?) = wr.map some) (hn : va_nd isR = true) (hdis : ∀ i ∈ isR, i ∉ isC) {r0 : Int32} {u0 : S} (hPm : ∀ u : S, isP.map (fun i => (wr ++ w1 u)[i]?) = (ws' u).map some) (hnp : va_nd isP = true)
    (hpost : ∀ x u, post x u → x = r0 ∧ u = u0) (hdead : ∀ E, P E → False)
    (hr : vx_Run p l e R s m args below meth c H locs 0 0 1 6 (F0 m pc ls st0) rest (xQ D post w1 (va_A wc H.size) a) (xX D wc P (va_A wc H.size)) (va_A wc H.size))
    (kk : ∀ (H1 : Heap) (locs1 : List Loc), va_P D vwCl (ws' u0) H1 → va_D A (ws' u0) → va_S A s.heap H1 locs1 → W p l e R s m args below meth c H1 locs1 1 6 Q (F0 m (pc + 3) ls (.int r0 :: rest))) : W p l e R s m args below meth c H locs 0 0 Q (F0 m pc ls st0) := by
  refine vx_calli hr hS (fun q _ h => va_free hD hS hA isC hC q h) (va_free hD hS hA isC hC) (fun q _ h => va_free hD hS hA isC hC q h) (fun E ce q9 u t H1 locs1 ht hvm hp hB => (hdead E hB.1).elim) (fun r1 u t H1 locs1 ht hvm hp hB hz hk hS1 => ?_)
  obtain ⟨rfl, rfl⟩ := hpost r1 u hp
  obtain ⟨g1, g2⟩ := cl_worldx hP hD hS hA hC hR hn hdis (hPm u) hnp ht hB.1 hB.2 hk
  exact kk H1 locs1 g1 g2 hS1
theorem cl_xl {S : Type} {post : Int32 → S → Prop} {P : String → Prop} {w1 ws' : S → va_W} {rest st0 : List Value} {a : Array Value} (hP : va_P D vwCl ws H) (hD : va_D A ws) (hS : va_S A s.heap H locs) (hA : ∀ q : Nat, s.heap.size ≤ q → A q) (isC isR isP : List Nat) (hC : isC.map (fun i => ws[i]?) = wc.map some) (hR : isR.map (fun i => ws[i]?) = wr.map some) (hn : va_nd isR = true) (hdis : ∀ i ∈ isR, i ∉ isC) (hPw : isP.map (fun i => (wr ++ wc)[i]?) = ws.map some) (hnp : va_nd isP = true)
    (hdead : ∀ x u, post x u → False)
    (hr : vx_Run p l e R s m args below meth c H locs 0 0 1 6 (F0 m pc ls st0) rest (xQ D post w1 (va_A wc H.size) a) (xX D wc P (va_A wc H.size)) (va_A wc H.size))
    (kx : ∀ (E : String) (ce : Cell) (q9 : Addr) (H1 : Heap) (locs1 : List Loc), P E → va_P D vwCl ws H1 → va_D A ws → va_S A s.heap H1 locs1 → H1[q9]? = some ce → ce.vm = .none → s.vm.findClass E = some ce.cls → vx_W p l e R s m args below meth c H1 locs1 1 6 Q (F0 m pc ls rest) q9) : W p l e R s m args below meth c H locs 0 0 Q (F0 m pc ls st0) := by
  refine vx_calli hr hS (fun q _ h => va_free hD hS hA isC hC q h) (va_free hD hS hA isC hC) (fun q _ h => va_free hD hS hA isC hC q h) (fun E ce q9 u t H1 locs1 ht hvm hp hB hz hk hS1 hcell hcv hcl => ?_) (fun r1 u t H1 locs1 ht hvm hp hB hz hk hS1 => (hdead r1 u hp).elim)
  obtain ⟨g1, g2⟩ := cl_worldx hP hD hS hA hC hR hn hdis hPw hnp ht hB.2.1 hB.2.2 hk
  exact kx E ce q9 H1 locs1 hB.1 g1 g2 hS1 hcell hcv hcl
end XT
theorem m_ofh {l : Launch} {y : MethodName} {ws ws' : List Cond} {rm : Room} {Qf : (Nat → Prop) → Array Value → State → Outcome → State → Prop} {cc : ByteArray} {maxL : Nat} {ret : Option FieldType} {hh : List (Nat × Nat × Nat × Nat)} {D : va_G} {ty : List (ClassId × FieldType)} {as : List Value} {sz : Nat} {w0 : va_W} {mc ms : Nat} (hy : plainName y.cls = true) (hw : ws = Cond.codeWith y cc maxL ret hh :: ws') (hn : (lg_sl as).length ≤ maxL)
    (body : ∀ (p : Program) (e : Env) (s : State) (m : MethodId) (args : Array Value) (below : List Frame) (meth : Method) (c : Code) (A : Nat → Prop) (ls : Array Slot), sz = s.heap.size → p.tables.exec = Jvm.exec → c.code = cc → meth.sig.returnType = ret → c.maxLocals = maxL → s.vm.findClass y.cls = some m.cls → (∀ w ∈ ws, w.before args s = true) → meth.locks = false → va_P D vwCl w0 s.heap → va_K D vwCl ty s → va_D A w0 → va_S A s.heap s.heap [] → (∀ q : Nat, s.heap.size ≤ q → A q) → EV A s s.heap → c.exceptionTable.toList = tableOf hh → lv_has ls maxL (lv_args 0 as) → ∀ Q : State → Prop, Q = MQ below (Qf A) args s mc ms A → W p l e rm s m args below meth c s.heap [] 0 0 Q (F0 m 0 ls [])) :
    Met l y ws rm (mPc D ty as sz w0) (Qf (va_A w0 sz)) mc ms (va_A w0 sz) := by
  refine va_MetW (cc := cc) (maxL := maxL) (ret := ret) (hh := hh) hy hw ?_
  intro p e s m args below meth c s₁ B hml hv
  obtain ⟨rfl, hsz, hP, hK, hD0, hE⟩ := hv
  subst hsz
  have hD := hD0.self (sz := s.heap.size)
  have hA : ∀ q : Nat, s.heap.size ≤ q → va_A w0 s.heap.size q := fun q h => Or.inr h
  have hl := lv_entry as (n := maxL) hn
  have hts := atoms_spec (ws := ws) B.pre
  have htab := vx_table (x := y) B (hts (Cond.codeWith y cc maxL ret hh) (by rw [hw]; exact List.mem_cons_self))
  rw [lg_entry_eq]
  exact body p e s m as.toArray below meth c (va_A w0 s.heap.size) _ rfl B.exec B.bytes B.returns hml (findClass_of_methodNamed B.named) hts B.notSynchronized hP hK hD va_S.rf hA hE htab hl _ rfl
theorem ng_1 : ∀ w ∈ (vx_atS RX3 51 "java/lang/IllegalArgumentException" x_names).filter (fun w => !goodWord w), w ∈ x_ng "java/lang/IllegalArgumentException" := by decide +kernel
theorem ng_2 : ∀ w ∈ (vx_atS RX3 62 "java/lang/IllegalStateException" x_names).filter (fun w => !goodWord w), w ∈ x_ng "java/lang/IllegalStateException" := by decide +kernel
theorem ng_3 : ∀ w ∈ (vx_atS RX3 150 "java/lang/IndexOutOfBoundsException" x_names).filter (fun w => !goodWord w), w ∈ x_ng "java/lang/IndexOutOfBoundsException" := by decide +kernel
/-! guards of the pure functions -/
/-- the index lies in a row of n, then k -/
def gd {α : Type} (i : Int32) (n : Nat) (k : Option α) : Option α := if i < 0 ∨ n ≤ i.toNatClampNeg then none else k
theorem gd_some {α : Type} {i : Int32} {n : Nat} {k : Option α} {r : α} (h : gd i n k = some r) : vp_in i n ∧ k = some r := by
  unfold gd at h
  by_cases c : i < 0 ∨ n ≤ i.toNatClampNeg
  · rw [if_pos c] at h; cases h
  · rw [if_neg c] at h; exact ⟨c, h⟩
theorem gd_in {α : Type} {i : Int32} {n : Nat} {k : Option α} (c : vp_in i n) : gd i n k = k := if_neg c
/-- the guard holds, then k -/
def gz {α : Type} (c : Bool) (k : Option α) : Option α := if c = true then k else none
theorem gz_some {α : Type} {c : Bool} {k : Option α} {r : α} (h : gz c k = some r) : c = true ∧ k = some r := by
  unfold gz at h
  by_cases g : c = true
  · rw [if_pos g] at h; exact ⟨g, h⟩
  · rw [if_neg g] at h; cases h
theorem gz_in {α : Type} {c : Bool} {k : Option α} (g : c = true) : gz c k = k := if_pos g
theorem bd_some {α β : Type} {x : Option α} {k : α → Option β} {r : β} (h : x.bind k = some r) : ∃ a, x = some a ∧ k a = some r := Option.bind_eq_some_iff.mp h
theorem br_pos {α : Type} {c : Prop} [Decidable c] {a b : Option α} {r : α} (g : c) (h : (if c then a else b) = some r) : a = some r := by rw [if_pos g] at h; exact h
theorem br_neg {α : Type} {c : Prop} [Decidable c] {a b : Option α} {r : α} (g : ¬ c) (h : (if c then a else b) = some r) : b = some r := by rw [if_neg g] at h; exact h
/-- a copy of one row into another, within both -/
def cpok (sp dp n : Int32) (n0 n1 : Nat) : Bool := decide (¬ sp < 0) && decide (¬ dp < 0) && decide (¬ n < 0) && decide (sp.toNatClampNeg + n.toNatClampNeg ≤ n0) && decide (dp.toNatClampNeg + n.toNatClampNeg ≤ n1)
theorem cpok_of {sp dp n : Int32} {n0 n1 : Nat} (h : cpok sp dp n n0 n1 = true) : ¬ sp < 0 ∧ ¬ dp < 0 ∧ ¬ n < 0 ∧ sp.toNatClampNeg + n.toNatClampNeg ≤ n0 ∧ dp.toNatClampNeg + n.toNatClampNeg ≤ n1 := by
  simp only [cpok, Bool.and_eq_true, decide_eq_true_eq] at h
  exact ⟨h.1.1.1.1, h.1.1.1.2, h.1.1.2, h.1.2, h.2⟩
/-- a boolean's value -/
def isz (v : Int32) : Bool := decide (v = 0) || decide (v = 1)
theorem isz_v {v : Int32} (h : isz v = true) : vp_nar .boolean v = v := by
  simp only [isz, Bool.or_eq_true, decide_eq_true_eq] at h
  rcases h with rfl | rfl <;> rfl
theorem isz_n {v : Int32} (h : isz v = true) : narrow .boolean (.int v) = .int v := by
  simp only [isz, Bool.or_eq_true, decide_eq_true_eq] at h
  rcases h with rfl | rfl <;> rfl
/-- worlds -/
abbrev wH (a b : Nat) (cI : ClassId) (C : Nat → Int32) : va_W := [(a, .inr (0, [.ref b])), (b, .inl (cI, 256, .inl C))]
