/-! STRINGS: the JDK's own methods over the six literals of the class Text -/
def sLen (k : Nat) : Int32 := Int32.ofNat (x_shl.getD k 0)
def sCh (k : Nat) (i : Int32) : Int32 := ((((x_shb.getD k []).getD i.toNatClampNeg 0) &&& 255).toUInt32 % 65536).toInt32
def sEm (k : Nat) : Int32 := if sLen k = 0 then 1 else 0
def sPc (adK adV : Nat → Nat) (as : List Value) (sz : Nat) : Array Value → State → Prop := va_Pc as (fun U => U.heap.size = sz ∧ EVs adK adV (fun q : Nat => sz ≤ q) U U.heap)
def sQi (r : Int32) (A : Nat → Prop) : Array Value → State → Outcome → State → Prop := va_Qi (fun (x : Int32) (_ : Unit) => x = r) (fun _ _ => True) A
def sQv (A : Nat → Prop) : Array Value → State → Outcome → State → Prop := va_Qv (fun (_ : Unit) => True) (fun _ _ => True) A
def sQr (ad : Nat) (A : Nat → Prop) : Array Value → State → Outcome → State → Prop := va_Qr (fun (_ : Unit) => True) (fun _ a _ => a = ad) A
theorem sPc_blind {adK adV : Nat → Nat} {as : List Value} {sz : Nat} : FrameBlind (sPc adK adV as sz) := by
  intro a U g mk q
  obtain ⟨h0, h1, h2⟩ := q
  exact ⟨h0, h1, EVs.same (u := U) (U := U.calling g mk a) rfl h2⟩
theorem s_of {l : Launch} {y : MethodName} {ws ws' : List Cond} {rm : Room} {Qf : (Nat → Prop) → Array Value → State → Outcome → State → Prop} {cc : ByteArray} {maxL : Nat} {ret : Option FieldType} {as : List Value} {sz : Nat} {adK adV : Nat → Nat} (hy : plainName y.cls = true) (hw : ws = Cond.code y cc maxL ret :: ws') (hn : (lg_sl as).length ≤ maxL)
    (body : ∀ (p : Program) (e : Env) (s : State) (m : MethodId) (args : Array Value) (below : List Frame) (meth : Method) (c : Code) (A : Nat → Prop) (ls : Array Slot), A = (fun q : Nat => s.heap.size ≤ q) → sz = s.heap.size → p.tables.exec = Jvm.exec → c.code = cc → meth.sig.returnType = ret → c.maxLocals = maxL → s.vm.findClass y.cls = some m.cls → (∀ w ∈ ws, w.before args s = true) → meth.locks = false → va_S A s.heap s.heap [] → EVs adK adV A s s.heap → lv_has ls maxL (lv_args 0 as) → ∀ Q : State → Prop, Q = MQ below (Qf A) args s 0 0 A → W p l e rm s m args below meth c s.heap [] 0 0 Q (F0 m 0 ls [])) :
    Met l y ws rm (sPc adK adV as sz) (Qf (fun q : Nat => sz ≤ q)) 0 0 (fun q : Nat => sz ≤ q) := by
  refine Met.ofW (cc := cc) (maxL := maxL) (ret := ret) hy hw ?_
  intro p e s m args below meth c s₁ B hml hv
  obtain ⟨rfl, hsz, hE⟩ := hv
  subst hsz
  have hl := lv_entry as (n := maxL) hn
  rw [lg_entry_eq]
  exact body p e s m as.toArray below meth c (fun q : Nat => s.heap.size ≤ q) _ rfl rfl B.exec B.bytes B.returns hml (findClass_of_methodNamed B.named) (atoms_spec (ws := ws) B.pre) B.notSynchronized va_S.rf hE hl _ rfl
section XS
variable {p : Program} {l : Launch} {e : Env} {R : Room} {s : State} {m : MethodId} {args : Array Value} {below : List Frame} {meth : Method} {c : Code} {H : Heap} {locs : List Loc} {cells slots : Nat} {Q : State → Prop}
variable {D : va_G} {A : Nat → Prop} {ws : va_W} {cc : ByteArray} {pc : Nat} {ls : Array Slot} {adK adV : Nat → Nat}
theorem s_pre {as : List Value} (hE : EVs adK adV A s s.heap) (hS : va_S A s.heap H locs) (hA : ∀ q : Nat, s.heap.size ≤ q → A q) : ∀ U : State, U.heap = H → s.WarmedH U.vm → sPc adK adV as H.size as.toArray U := by
  intro U hU hW
  refine ⟨rfl, by rw [hU], ?_⟩
  rw [hU]
  exact EVs.warm hW (EVs.narrow (EVs.kept hE hS.2.1) fun q h => hA q (Nat.le_trans hS.1 h))
theorem s_preV {as : List Value} {i : Nat} (hi : i < 6) (hE : EVs adK adV A s s.heap) (hS : va_S A s.heap H locs) (hA : ∀ q : Nat, s.heap.size ≤ q → A q) : PreV s H RJ0 (adK i) (sPc adK adV (Value.ref (adK i) :: as) H.size) as :=
  ⟨sPc_blind, vk_recv hE.1 hi hS, s_pre hE hS hA⟩
theorem s_preS {as : List Value} (hE : EVs adK adV A s s.heap) (hS : va_S A s.heap H locs) (hA : ∀ q : Nat, s.heap.size ≤ q → A q) : PreS s H (sPc adK adV as H.size) as :=
  ⟨sPc_blind, s_pre hE hS hA⟩
theorem s_i {r : Int32} {rest st0 : List Value} {a : Array Value} (hS : va_S A s.heap H locs) (hA : ∀ q : Nat, s.heap.size ≤ q → A q)
    (hr : va_Run p l e R s m args below meth c H locs cells slots 0 0 (F0 m pc ls st0) rest (sQi r (fun q : Nat => H.size ≤ q) a) (fun q : Nat => H.size ≤ q))
    (kk : ∀ (H1 : Heap) (locs1 : List Loc), (∀ q : Nat, q < H.size → H1[q]? = H[q]?) → va_S A s.heap H1 locs1 → W p l e R s m args below meth c H1 locs1 cells slots Q (F0 m (pc + 3) ls (.int r :: rest))) : W p l e R s m args below meth c H locs cells slots Q (F0 m pc ls st0) := by
  refine va_calli hr hS (fun q h1 h2 => absurd h2 (Nat.not_le.mpr h1)) (fun q h => hA q (Nat.le_trans hS.1 h)) (fun r1 u t H1 locs1 ht hvm hp hB hz hk hS1 => ?_)
  rw [show r1 = r from hp]
  exact kk H1 locs1 (fun q h => hk q h (Nat.not_le.mpr h)) hS1
theorem s_v {rest st0 : List Value} {a : Array Value} (hS : va_S A s.heap H locs) (hA : ∀ q : Nat, s.heap.size ≤ q → A q)
    (hr : va_Run p l e R s m args below meth c H locs cells slots 0 0 (F0 m pc ls st0) rest (sQv (fun q : Nat => H.size ≤ q) a) (fun q : Nat => H.size ≤ q))
    (kk : ∀ (H1 : Heap) (locs1 : List Loc), (∀ q : Nat, q < H.size → H1[q]? = H[q]?) → va_S A s.heap H1 locs1 → W p l e R s m args below meth c H1 locs1 cells slots Q (F0 m (pc + 3) ls rest)) : W p l e R s m args below meth c H locs cells slots Q (F0 m pc ls st0) := by
  refine va_callv hr hS (fun q h1 h2 => absurd h2 (Nat.not_le.mpr h1)) (fun q h => hA q (Nat.le_trans hS.1 h)) (fun u t H1 locs1 ht hvm hp hB hz hk hS1 => ?_)
  exact kk H1 locs1 (fun q h => hk q h (Nat.not_le.mpr h)) hS1
theorem s_r {ad : Nat} {rest st0 : List Value} {a : Array Value} (hS : va_S A s.heap H locs) (hA : ∀ q : Nat, s.heap.size ≤ q → A q)
    (hr : va_Run p l e R s m args below meth c H locs cells slots 0 0 (F0 m pc ls st0) rest (sQr ad (fun q : Nat => H.size ≤ q) a) (fun q : Nat => H.size ≤ q))
    (kk : ∀ (H1 : Heap) (locs1 : List Loc), (∀ q : Nat, q < H.size → H1[q]? = H[q]?) → va_S A s.heap H1 locs1 → W p l e R s m args below meth c H1 locs1 cells slots Q (F0 m (pc + 3) ls (.ref ad :: rest))) : W p l e R s m args below meth c H locs cells slots Q (F0 m pc ls st0) := by
  refine va_callr hr hS (fun q h1 h2 => absurd h2 (Nat.not_le.mpr h1)) (fun q h => hA q (Nat.le_trans hS.1 h)) (fun u9 a1 t H1 locs1 ht hvm hp hB hz hk hS1 => ?_)
  rw [show a1 = ad from hB]
  exact kk H1 locs1 (fun q h => hk q h (Nat.not_le.mpr h)) hS1
theorem s_world (hP : va_P D vwCl ws H) {H1 : Heap} (hk : ∀ q : Nat, q < H.size → H1[q]? = H[q]?) : va_P D vwCl ws H1 := hP.kept fun k q hq => hk q.1 (hP k q hq).lt
theorem s_ret {r : Int32} {ty : FieldType} (hQ : Q = MQ below (sQi r A) args s 0 0 A) (hx : p.tables.exec = Jvm.exec) (hb : c.code = cc) (hr : meth.sig.returnType = some ty) (hn : narrow ty (.int r) = .int r) (hlocks : meth.locks = false) (hS : va_S A s.heap H locs) (hdg : decode cc pc = .ok (.ireturn, 1)) : W p l e R s m args below meth c H locs 0 0 Q (F0 m pc ls [.int r]) := by
  rw [hQ]
  exact W.zret (v := r) hx hb hr hn (fun t ht hW => ⟨⟨r, (), rfl, rfl, trivial⟩, hS.F ht⟩) hS.2.2 hdg
theorem s_retv (hQ : Q = MQ below (sQv A) args s 0 0 A) (hx : p.tables.exec = Jvm.exec) (hb : c.code = cc) (hr : meth.sig.returnType = none) (hlocks : meth.locks = false) (hS : va_S A s.heap H locs) (hdg : decode cc pc = .ok (.return_, 1)) : W p l e R s m args below meth c H locs 0 0 Q (F0 m pc ls []) := by
  rw [hQ]
  exact W.vret hx hb hr (fun t ht hW => ⟨⟨(), rfl, trivial, trivial⟩, hS.F ht⟩) hS.2.2 hdg
theorem s_retr {ad : Nat} {rt : FieldType} (hQ : Q = MQ below (sQr ad A) args s 0 0 A) (hx : p.tables.exec = Jvm.exec) (hb : c.code = cc) (hr : meth.sig.returnType = some rt) (hrt : (∃ n, rt = .object n) ∨ ∃ t, rt = .array t) (hlocks : meth.locks = false) (hS : va_S A s.heap H locs) (hdg : decode cc pc = .ok (.areturn, 1)) : W p l e R s m args below meth c H locs 0 0 Q (F0 m pc ls [.ref ad]) := by
  rw [hQ]
  exact W.aret (v := .ref ad) hx hb hr hrt (Or.inr ⟨_, rfl⟩) (fun t ht hW => ⟨⟨(), ad, rfl, trivial, rfl⟩, hS.F ht⟩) hS.2.2 hdg
end XS
abbrev rmS (f n : Nat) : Room := ({ frames := f, cells := 0, slots := 0, locals := n })

set_option maxHeartbeats 4000000 in
set_option maxRecDepth 100000 in
theorem kJ0_coder_7d493 (l : Launch) (adK adV : Nat → Nat) (sz : Nat) (i : Nat) (hi : i < 6) : Met l yJ0_coder_7d493 wsJ0_coder_7d493 (rmS 1 0) (sPc adK adV [.ref (adK i)] sz) (sQi 0 (fun q : Nat => sz ≤ q)) 0 0 (fun q : Nat => sz ≤ q) := by
  refine s_of (Qf := sQi 0) (cc := cJ0_coder_7d493) (maxL := 1) (ret := (some .byte)) (by decide) rfl (Nat.le_of_ble_eq_true rfl) ?_
  intro p e s m args below meth c A ls hAe hsz hx hb hr hml hown hts hlocks hS hE hl Q hQ
  subst hsz
  have hA : ∀ q : Nat, s.heap.size ≤ q → A q := fun q h => by rw [hAe]; exact h
  have hl : lv_has ls 1 [(0, .ref (adK i))] := hl
  have hown : s.vm.findClass RJ0 = some m.cls := hown
  refine va_gets hx hb hE.2.1 hS hown (hts (.fieldLink RJ0 38 "java/lang/String" "COMPACT_STRINGS" "Z") (List.mem_of_getElem? (i := 1) rfl)) (fun _ h9 => h9) dJ0_coder_7d493_0 ?_
  refine lv_if_eq (tgt := 13) hx hb dJ0_coder_7d493_3 (by decide) (fun c => absurd c (by decide)) (fun _ => ?_)
  refine lv_aload_n hx hb dJ0_coder_7d493_6 rfl (lv_at hl 0 rfl) ?_
  refine vk_getf hx hb ((hE.1.1 i hi).2.1) hS hown (hts (.fieldLink RJ0 15 "java/lang/String" "coder" "B") (List.mem_of_getElem? (i := 2) rfl)) (fun _ h9 => h9) dJ0_coder_7d493_7 ?_
  refine lv_goto (tgt := 14) hx hb dJ0_coder_7d493_10 (by decide) ?_
  exact s_ret hQ hx hb hr rfl hlocks hS dJ0_coder_7d493_14
set_option maxHeartbeats 4000000 in
set_option maxRecDepth 100000 in
theorem kJ0_length_8abf5 (l : Launch) (adK adV : Nat → Nat) (sz : Nat) (i : Nat) (hi : i < 6) : Met l yJ0_length_8abf5 wsJ0_length_8abf5 (rmS 2 20) (sPc adK adV [.ref (adK i)] sz) (sQi (sLen i) (fun q : Nat => sz ≤ q)) 0 0 (fun q : Nat => sz ≤ q) := by
  refine s_of (Qf := sQi (sLen i)) (cc := cJ0_length_8abf5) (maxL := 1) (ret := (some .int)) (by decide) rfl (Nat.le_of_ble_eq_true rfl) ?_
  intro p e s m args below meth c A ls hAe hsz hx hb hr hml hown hts hlocks hS hE hl Q hQ
  subst hsz
  have hA : ∀ q : Nat, s.heap.size ≤ q → A q := fun q h => by rw [hAe]; exact h
  have hl : lv_has ls 1 [(0, .ref (adK i))] := hl
  have hown : s.vm.findClass RJ0 = some m.cls := hown
  refine lv_aload_n hx hb dJ0_length_8abf5_0 rfl (lv_at hl 0 rfl) ?_
  refine vk_getf hx hb ((hE.1.1 i hi).2.2.1) hS hown (hts (.fieldLink RJ0 9 "java/lang/String" "value" "[B") (List.mem_of_getElem? (i := 1) rfl)) (fun _ h9 => h9) dJ0_length_8abf5_1 ?_
  refine va_tlen hx hb (hE.1.1 i hi).2.2.2 hS rfl dJ0_length_8abf5_4 ?_
  refine lv_aload_n hx hb dJ0_length_8abf5_5 rfl (lv_at hl 0 rfl) ?_
  refine s_i (r := 0) hS hA (va_runV (As := []) (rest := [.int (sLen i)]) ⟨hx, hb, hml, hown, hts⟩ (kJ0_coder_7d493 l adK adV _ i hi) (cwV 0 hts gJ0_length_8abf5_J0_coder_7d493 rfl rfl rfl (by decide +kernel) ⟨Nat.le_of_ble_eq_true rfl, Nat.le_of_ble_eq_true rfl⟩) (s_preV hi hE hS hA) rfl rfl hl.1 rfl (lv_room (Nat.le_of_ble_eq_true rfl)) dJ0_length_8abf5_6 ⟨Nat.le_of_ble_eq_true rfl, Nat.le_of_ble_eq_true rfl⟩) (fun H locs hk hS => ?_)
  refine lv_ishr hx hb dJ0_length_8abf5_9 ?_
  have e9 : ∀ j, j < 6 → sLen j >>> ((0 : Int32) &&& 31) = sLen j := by decide
  rw [e9 i hi]
  exact s_ret hQ hx hb hr rfl hlocks hS dJ0_length_8abf5_10
set_option maxHeartbeats 4000000 in
set_option maxRecDepth 100000 in
theorem kJ0_isEmpty_aae02 (l : Launch) (adK adV : Nat → Nat) (sz : Nat) (i : Nat) (hi : i < 6) : Met l yJ0_isEmpty_aae02 wsJ0_isEmpty_aae02 (rmS 1 0) (sPc adK adV [.ref (adK i)] sz) (sQi (sEm i) (fun q : Nat => sz ≤ q)) 0 0 (fun q : Nat => sz ≤ q) := by
  refine s_of (Qf := sQi (sEm i)) (cc := cJ0_isEmpty_aae02) (maxL := 1) (ret := (some .boolean)) (by decide) rfl (Nat.le_of_ble_eq_true rfl) ?_
  intro p e s m args below meth c A ls hAe hsz hx hb hr hml hown hts hlocks hS hE hl Q hQ
  subst hsz
  have hA : ∀ q : Nat, s.heap.size ≤ q → A q := fun q h => by rw [hAe]; exact h
  have hl : lv_has ls 1 [(0, .ref (adK i))] := hl
  have hown : s.vm.findClass RJ0 = some m.cls := hown
  refine lv_aload_n hx hb dJ0_isEmpty_aae02_0 rfl (lv_at hl 0 rfl) ?_
  refine vk_getf hx hb ((hE.1.1 i hi).2.2.1) hS hown (hts (.fieldLink RJ0 9 "java/lang/String" "value" "[B") (List.mem_of_getElem? (i := 1) rfl)) (fun _ h9 => h9) dJ0_isEmpty_aae02_1 ?_
  refine va_tlen hx hb (hE.1.1 i hi).2.2.2 hS (v := sLen i) rfl dJ0_isEmpty_aae02_4 ?_
  refine lv_if_ne (tgt := 12) hx hb dJ0_isEmpty_aae02_5 (by decide) (fun c => ?_) (fun c => ?_)
  · rw [show sEm i = 0 from if_neg c] at hQ
    refine lv_iconst (v := 0) hx hb dJ0_isEmpty_aae02_12 (by decide) ?_
    exact s_ret hQ hx hb hr rfl hlocks hS dJ0_isEmpty_aae02_13
  · rw [show sEm i = 1 from if_pos c] at hQ
    refine lv_iconst (v := 1) hx hb dJ0_isEmpty_aae02_8 (by decide) ?_
    refine lv_goto (tgt := 13) hx hb dJ0_isEmpty_aae02_9 (by decide) ?_
    exact s_ret hQ hx hb hr rfl hlocks hS dJ0_isEmpty_aae02_13
set_option maxHeartbeats 4000000 in
set_option maxRecDepth 100000 in
theorem kJ0_isLatin1_aae02 (l : Launch) (adK adV : Nat → Nat) (sz : Nat) (i : Nat) (hi : i < 6) : Met l yJ0_isLatin1_aae02 wsJ0_isLatin1_aae02 (rmS 1 0) (sPc adK adV [.ref (adK i)] sz) (sQi 1 (fun q : Nat => sz ≤ q)) 0 0 (fun q : Nat => sz ≤ q) := by
  refine s_of (Qf := sQi 1) (cc := cJ0_isLatin1_aae02) (maxL := 1) (ret := (some .boolean)) (by decide) rfl (Nat.le_of_ble_eq_true rfl) ?_
  intro p e s m args below meth c A ls hAe hsz hx hb hr hml hown hts hlocks hS hE hl Q hQ
  subst hsz
  have hA : ∀ q : Nat, s.heap.size ≤ q → A q := fun q h => by rw [hAe]; exact h
  have hl : lv_has ls 1 [(0, .ref (adK i))] := hl
  have hown : s.vm.findClass RJ0 = some m.cls := hown
  refine va_gets hx hb hE.2.1 hS hown (hts (.fieldLink RJ0 38 "java/lang/String" "COMPACT_STRINGS" "Z") (List.mem_of_getElem? (i := 1) rfl)) (fun _ h9 => h9) dJ0_isLatin1_aae02_0 ?_
  refine lv_if_eq (tgt := 17) hx hb dJ0_isLatin1_aae02_3 (by decide) (fun c => absurd c (by decide)) (fun _ => ?_)
  refine lv_aload_n hx hb dJ0_isLatin1_aae02_6 rfl (lv_at hl 0 rfl) ?_
  refine vk_getf hx hb ((hE.1.1 i hi).2.1) hS hown (hts (.fieldLink RJ0 15 "java/lang/String" "coder" "B") (List.mem_of_getElem? (i := 2) rfl)) (fun _ h9 => h9) dJ0_isLatin1_aae02_7 ?_
  refine lv_if_ne (tgt := 17) hx hb dJ0_isLatin1_aae02_10 (by decide) (fun c => absurd rfl c) (fun _ => ?_)
  refine lv_iconst (v := 1) hx hb dJ0_isLatin1_aae02_13 (by decide) ?_
  refine lv_goto (tgt := 18) hx hb dJ0_isLatin1_aae02_14 (by decide) ?_
  exact s_ret hQ hx hb hr rfl hlocks hS dJ0_isLatin1_aae02_18
set_option maxHeartbeats 4000000 in
set_option maxRecDepth 100000 in
theorem kJ3_checkIndex_8e157n (l : Launch) (adK adV : Nat → Nat) (sz : Nat) (i n : Int32) (h0 : ¬ i < 0) (h1 : i < n) : Met l yJ3_checkIndex_8e157 wsJ3_checkIndex_8e157 (rmS 1 0) (sPc adK adV [.int i, .int n, .null] sz) (sQi i (fun q : Nat => sz ≤ q)) 0 0 (fun q : Nat => sz ≤ q) := by
  refine s_of (Qf := sQi i) (cc := cJ3_checkIndex_8e157) (maxL := 3) (ret := (some .int)) (by decide) rfl (Nat.le_of_ble_eq_true rfl) ?_
  intro p e s m args below meth c A ls hAe hsz hx hb hr hml hown hts hlocks hS hE hl Q hQ
  subst hsz
  have hA : ∀ q : Nat, s.heap.size ≤ q → A q := fun q h => by rw [hAe]; exact h
  have hl : lv_has ls 3 [(0, .int i), (1, .int n), (2, .null)] := hl
  have hown : s.vm.findClass RJ3 = some m.cls := hown
  refine lv_iload_n hx hb dJ3_checkIndex_8e157_0 rfl (lv_at hl 0 rfl) ?_
  refine lv_if_lt (tgt := 9) hx hb dJ3_checkIndex_8e157_1 (by decide) (fun c => absurd c h0) (fun _ => ?_)
  refine lv_iload_n hx hb dJ3_checkIndex_8e157_4 rfl (lv_at hl 0 rfl) ?_
  refine lv_iload_n hx hb dJ3_checkIndex_8e157_5 rfl (lv_at hl 1 rfl) ?_
  refine lv_icmp_lt (tgt := 16) hx hb dJ3_checkIndex_8e157_6 (by decide) (fun _ => ?_) (fun c => absurd h1 c)
  refine lv_iload_n hx hb dJ3_checkIndex_8e157_16 rfl (lv_at hl 0 rfl) ?_
  exact s_ret hQ hx hb hr rfl hlocks hS dJ3_checkIndex_8e157_17
set_option maxHeartbeats 4000000 in
set_option maxRecDepth 100000 in
theorem kJ3_checkIndex_8e157r (l : Launch) (adK adV : Nat → Nat) (sz : Nat) (i n : Int32) (t9 : Nat) (h0 : ¬ i < 0) (h1 : i < n) : Met l yJ3_checkIndex_8e157 wsJ3_checkIndex_8e157 (rmS 1 0) (sPc adK adV [.int i, .int n, .ref t9] sz) (sQi i (fun q : Nat => sz ≤ q)) 0 0 (fun q : Nat => sz ≤ q) := by
  refine s_of (Qf := sQi i) (cc := cJ3_checkIndex_8e157) (maxL := 3) (ret := (some .int)) (by decide) rfl (Nat.le_of_ble_eq_true rfl) ?_
  intro p e s m args below meth c A ls hAe hsz hx hb hr hml hown hts hlocks hS hE hl Q hQ
  subst hsz
  have hA : ∀ q : Nat, s.heap.size ≤ q → A q := fun q h => by rw [hAe]; exact h
  have hl : lv_has ls 3 [(0, .int i), (1, .int n), (2, .ref t9)] := hl
  have hown : s.vm.findClass RJ3 = some m.cls := hown
  refine lv_iload_n hx hb dJ3_checkIndex_8e157_0 rfl (lv_at hl 0 rfl) ?_
  refine lv_if_lt (tgt := 9) hx hb dJ3_checkIndex_8e157_1 (by decide) (fun c => absurd c h0) (fun _ => ?_)
  refine lv_iload_n hx hb dJ3_checkIndex_8e157_4 rfl (lv_at hl 0 rfl) ?_
  refine lv_iload_n hx hb dJ3_checkIndex_8e157_5 rfl (lv_at hl 1 rfl) ?_
  refine lv_icmp_lt (tgt := 16) hx hb dJ3_checkIndex_8e157_6 (by decide) (fun _ => ?_) (fun c => absurd h1 c)
  refine lv_iload_n hx hb dJ3_checkIndex_8e157_16 rfl (lv_at hl 0 rfl) ?_
  exact s_ret hQ hx hb hr rfl hlocks hS dJ3_checkIndex_8e157_17
set_option maxHeartbeats 4000000 in
set_option maxRecDepth 100000 in
theorem kJ0_checkIndex_df160 (l : Launch) (adK adV : Nat → Nat) (sz : Nat) (i n : Int32) (h0 : ¬ i < 0) (h1 : i < n) : Met l yJ0_checkIndex_df160 wsJ0_checkIndex_df160 (rmS 2 40) (sPc adK adV [.int i, .int n] sz) (sQv (fun q : Nat => sz ≤ q)) 0 0 (fun q : Nat => sz ≤ q) := by
  refine s_of (Qf := sQv) (cc := cJ0_checkIndex_df160) (maxL := 2) (ret := none) (by decide) rfl (Nat.le_of_ble_eq_true rfl) ?_
  intro p e s m args below meth c A ls hAe hsz hx hb hr hml hown hts hlocks hS hE hl Q hQ
  subst hsz
  have hA : ∀ q : Nat, s.heap.size ≤ q → A q := fun q h => by rw [hAe]; exact h
  have hl : lv_has ls 2 [(0, .int i), (1, .int n)] := hl
  have hown : s.vm.findClass RJ0 = some m.cls := hown
  refine lv_iload_n hx hb dJ0_checkIndex_df160_0 rfl (lv_at hl 0 rfl) ?_
  refine lv_iload_n hx hb dJ0_checkIndex_df160_1 rfl (lv_at hl 1 rfl) ?_
  rcases hE.2.2.2 with hz | ⟨t9, hz⟩
  · refine va_gets hx hb hz hS hown (hts (.fieldLink RJ0 1053 "jdk/internal/util/Preconditions" "SIOOBE_FORMATTER" "Ljava/util/function/BiFunction;") (List.mem_of_getElem? (i := 1) rfl)) (fun _ h9 => h9) dJ0_checkIndex_df160_2 ?_
    refine s_i (r := i) hS hA (va_runS (As := [.int i, .int n, .null]) (rest := []) ⟨hx, hb, hml, hown, hts⟩ (kJ3_checkIndex_8e157n l adK adV _ i n h0 h1) (va_cwS 3 hts gJ0_checkIndex_df160_J3_checkIndex_8e157 rfl rfl rfl (by decide +kernel) ⟨Nat.le_of_ble_eq_true rfl, Nat.le_of_ble_eq_true rfl⟩) (s_preS hE hS hA) rfl rfl hl.1 rfl (lv_room (Nat.le_of_ble_eq_true rfl)) dJ0_checkIndex_df160_5 ⟨Nat.le_of_ble_eq_true rfl, Nat.le_of_ble_eq_true rfl⟩) (fun H locs hk hS => ?_)
    refine lv_pop hx hb dJ0_checkIndex_df160_8 rfl ?_
    exact s_retv hQ hx hb hr hlocks hS dJ0_checkIndex_df160_9
  · refine va_gets hx hb hz hS hown (hts (.fieldLink RJ0 1053 "jdk/internal/util/Preconditions" "SIOOBE_FORMATTER" "Ljava/util/function/BiFunction;") (List.mem_of_getElem? (i := 1) rfl)) (fun _ h9 => h9) dJ0_checkIndex_df160_2 ?_
    refine s_i (r := i) hS hA (va_runS (As := [.int i, .int n, .ref t9]) (rest := []) ⟨hx, hb, hml, hown, hts⟩ (kJ3_checkIndex_8e157r l adK adV _ i n t9 h0 h1) (va_cwS 3 hts gJ0_checkIndex_df160_J3_checkIndex_8e157 rfl rfl rfl (by decide +kernel) ⟨Nat.le_of_ble_eq_true rfl, Nat.le_of_ble_eq_true rfl⟩) (s_preS hE hS hA) rfl rfl hl.1 rfl (lv_room (Nat.le_of_ble_eq_true rfl)) dJ0_checkIndex_df160_5 ⟨Nat.le_of_ble_eq_true rfl, Nat.le_of_ble_eq_true rfl⟩) (fun H locs hk hS => ?_)
    refine lv_pop hx hb dJ0_checkIndex_df160_8 rfl ?_
    exact s_retv hQ hx hb hr hlocks hS dJ0_checkIndex_df160_9
theorem sh_lt {i : Nat} (hi : i < 6) {k : Int32} (hk : vp_in k (x_shl.getD i 0)) : ¬ k < 0 ∧ k < sLen i := by
  have hs : ∀ j, j < 6 → x_shl.getD j 0 < 2 ^ 31 := by decide
  obtain ⟨j, hj, rfl⟩ := vp_in_of hk (hs i hi)
  have h2 : j < 2 ^ 31 := Nat.lt_trans hj (hs i hi)
  exact ⟨nI_pos h2, nI_lt hj (hs i hi)⟩
set_option maxHeartbeats 4000000 in
set_option maxRecDepth 100000 in
theorem kJ1_charAt_3b067 (l : Launch) (adK adV : Nat → Nat) (sz : Nat) (i : Nat) (hi : i < 6) (k : Int32) (hk : vp_in k (x_shl.getD i 0)) : Met l yJ1_charAt_3b067 wsJ1_charAt_3b067 (rmS 3 70) (sPc adK adV [.ref (adV i), .int k] sz) (sQi (sCh i k) (fun q : Nat => sz ≤ q)) 0 0 (fun q : Nat => sz ≤ q) := by
  refine s_of (Qf := sQi (sCh i k)) (cc := cJ1_charAt_3b067) (maxL := 2) (ret := (some .char)) (by decide) rfl (Nat.le_of_ble_eq_true rfl) ?_
  intro p e s m args below meth c A ls hAe hsz hx hb hr hml hown hts hlocks hS hE hl Q hQ
  subst hsz
  have hA : ∀ q : Nat, s.heap.size ≤ q → A q := fun q h => by rw [hAe]; exact h
  have hl : lv_has ls 2 [(0, .ref (adV i)), (1, .int k)] := hl
  have hown : s.vm.findClass RJ1 = some m.cls := hown
  refine lv_iload_n hx hb dJ1_charAt_3b067_0 rfl (lv_at hl 1 rfl) ?_
  refine lv_aload_n hx hb dJ1_charAt_3b067_1 rfl (lv_at hl 0 rfl) ?_
  refine va_tlen hx hb (hE.1.1 i hi).2.2.2 hS (v := sLen i) rfl dJ1_charAt_3b067_2 ?_
  refine s_v hS hA (va_runS (As := [.int k, .int (sLen i)]) (rest := []) ⟨hx, hb, hml, hown, hts⟩ (kJ0_checkIndex_df160 l adK adV _ k (sLen i) (sh_lt hi hk).1 (sh_lt hi hk).2) (va_cwS 2 hts gJ1_charAt_3b067_J0_checkIndex_df160 rfl rfl rfl (by decide +kernel) ⟨Nat.le_of_ble_eq_true rfl, Nat.le_of_ble_eq_true rfl⟩) (s_preS hE hS hA) rfl rfl hl.1 rfl (lv_room (Nat.le_of_ble_eq_true rfl)) dJ1_charAt_3b067_3 ⟨Nat.le_of_ble_eq_true rfl, Nat.le_of_ble_eq_true rfl⟩) (fun H locs hk9 hS => ?_)
  refine lv_aload_n hx hb dJ1_charAt_3b067_6 rfl (lv_at hl 0 rfl) ?_
  refine lv_iload_n hx hb dJ1_charAt_3b067_7 rfl (lv_at hl 1 rfl) ?_
  refine va_tb hx hb (hE.1.1 i hi).2.2.2 hS hk (v := .int ((x_shb.getD i []).getD k.toNatClampNeg 0)) rfl dJ1_charAt_3b067_8 ?_
  refine lv_sipush (v := 255) hx hb dJ1_charAt_3b067_9 (by decide) ?_
  refine lv_iand hx hb dJ1_charAt_3b067_12 ?_
  refine lv_i2c (v := sCh i k) hx hb dJ1_charAt_3b067_13 rfl ?_
  exact s_ret hQ hx hb hr (pk_nc _) hlocks hS dJ1_charAt_3b067_14
set_option maxHeartbeats 4000000 in
set_option maxRecDepth 100000 in
theorem kJ0_charAt_5068e (l : Launch) (adK adV : Nat → Nat) (sz : Nat) (i : Nat) (hi : i < 6) (k : Int32) (hk : vp_in k (x_shl.getD i 0)) : Met l yJ0_charAt_5068e wsJ0_charAt_5068e (rmS 4 95) (sPc adK adV [.ref (adK i), .int k] sz) (sQi (sCh i k) (fun q : Nat => sz ≤ q)) 0 0 (fun q : Nat => sz ≤ q) := by
  refine s_of (Qf := sQi (sCh i k)) (cc := cJ0_charAt_5068e) (maxL := 2) (ret := (some .char)) (by decide) rfl (Nat.le_of_ble_eq_true rfl) ?_
  intro p e s m args below meth c A ls hAe hsz hx hb hr hml hown hts hlocks hS hE hl Q hQ
  subst hsz
  have hA : ∀ q : Nat, s.heap.size ≤ q → A q := fun q h => by rw [hAe]; exact h
  have hl : lv_has ls 2 [(0, .ref (adK i)), (1, .int k)] := hl
  have hown : s.vm.findClass RJ0 = some m.cls := hown
  refine lv_aload_n hx hb dJ0_charAt_5068e_0 rfl (lv_at hl 0 rfl) ?_
  refine s_i (r := 1) hS hA (va_runV (As := []) (rest := []) ⟨hx, hb, hml, hown, hts⟩ (kJ0_isLatin1_aae02 l adK adV _ i hi) (cwV 0 hts gJ0_charAt_5068e_J0_isLatin1_aae02 rfl rfl rfl (by decide +kernel) ⟨Nat.le_of_ble_eq_true rfl, Nat.le_of_ble_eq_true rfl⟩) (s_preV hi hE hS hA) rfl rfl hl.1 rfl (lv_room (Nat.le_of_ble_eq_true rfl)) dJ0_charAt_5068e_1 ⟨Nat.le_of_ble_eq_true rfl, Nat.le_of_ble_eq_true rfl⟩) (fun H locs hk9 hS => ?_)
  refine lv_if_eq (tgt := 16) hx hb dJ0_charAt_5068e_4 (by decide) (fun c => absurd c (by decide)) (fun _ => ?_)
  refine lv_aload_n hx hb dJ0_charAt_5068e_7 rfl (lv_at hl 0 rfl) ?_
  refine vk_getf hx hb ((hE.1.1 i hi).2.2.1) hS hown (hts (.fieldLink RJ0 9 "java/lang/String" "value" "[B") (List.mem_of_getElem? (i := 1) rfl)) (fun _ h9 => h9) dJ0_charAt_5068e_8 ?_
  refine lv_iload_n hx hb dJ0_charAt_5068e_11 rfl (lv_at hl 1 rfl) ?_
  refine s_i (r := sCh i k) hS hA (va_runS (As := [.ref (adV i), .int k]) (rest := []) ⟨hx, hb, hml, hown, hts⟩ (kJ1_charAt_3b067 l adK adV _ i hi k hk) (va_cwS 2 hts gJ0_charAt_5068e_J1_charAt_3b067 rfl rfl rfl (by decide +kernel) ⟨Nat.le_of_ble_eq_true rfl, Nat.le_of_ble_eq_true rfl⟩) (s_preS hE hS hA) rfl rfl hl.1 rfl (lv_room (Nat.le_of_ble_eq_true rfl)) dJ0_charAt_5068e_12 ⟨Nat.le_of_ble_eq_true rfl, Nat.le_of_ble_eq_true rfl⟩) (fun H locs hk9 hS => ?_)
  exact s_ret hQ hx hb hr (pk_nc _) hlocks hS dJ0_charAt_5068e_15
def fX2_shapeOf (p0 : Int32) : Nat := if p0 = 104 then 1 else if p0 = 112 then 5 else if p0 = 114 then 4 else if p0 = 116 then 2 else if p0 = 120 then 3 else 0
theorem fX2_shapeOf_lt (p0 : Int32) : fX2_shapeOf p0 < 6 := by
  unfold fX2_shapeOf
  repeat (first | split | decide)
set_option maxHeartbeats 4000000 in
set_option maxRecDepth 100000 in
theorem kX2_shapeOf (l : Launch) (adK adV : Nat → Nat) (sz : Nat) (p0 : Int32) : Met l yX2_shapeOf wsX2_shapeOf (rmS 1 0) (sPc adK adV [.int p0] sz) (sQr (adK (fX2_shapeOf p0)) (fun q : Nat => sz ≤ q)) 0 0 (fun q : Nat => sz ≤ q) := by
  refine s_of (Qf := sQr (adK (fX2_shapeOf p0))) (cc := cX2_shapeOf) (maxL := 1) (ret := (some (.object "java/lang/String"))) (by decide) rfl (Nat.le_of_ble_eq_true rfl) ?_
  intro p e s m args below meth c A ls hAe hsz hx hb hr hml hown hts hlocks hS hE hl Q hQ
  subst hsz
  have hA : ∀ q : Nat, s.heap.size ≤ q → A q := fun q h => by rw [hAe]; exact h
  have hl : lv_has ls 1 [(0, .int p0)] := hl
  have hown : s.vm.findClass RX2 = some m.cls := hown
  refine lv_iload_n hx hb dX2_shapeOf_0 rfl (lv_at hl 0 rfl) ?_
  by_cases c104 : p0 = 104
  · rw [show fX2_shapeOf p0 = 1 from by unfold fX2_shapeOf; rw [if_pos c104]] at hQ
    refine lv_lookup (off := 51) (tgt := 52) hx hb dX2_shapeOf_1 (by decide) (by rw [c104]; decide) (by decide) ?_
    refine va_ldcS hx hb hown (hE.2.2.1.2.1) dX2_shapeOf_52 ?_
    exact s_retr hQ hx hb hr (Or.inl ⟨_, rfl⟩) hlocks hS dX2_shapeOf_54
  by_cases c112 : p0 = 112
  · rw [show fX2_shapeOf p0 = 5 from by unfold fX2_shapeOf; rw [if_neg c104, if_pos c112]] at hQ
    refine lv_lookup (off := 63) (tgt := 64) hx hb dX2_shapeOf_1 (by decide) (by rw [c112]; decide) (by decide) ?_
    refine va_ldcS hx hb hown (hE.2.2.1.2.2.2.2.2) dX2_shapeOf_64 ?_
    exact s_retr hQ hx hb hr (Or.inl ⟨_, rfl⟩) hlocks hS dX2_shapeOf_66
  by_cases c114 : p0 = 114
  · rw [show fX2_shapeOf p0 = 4 from by unfold fX2_shapeOf; rw [if_neg c104, if_neg c112, if_pos c114]] at hQ
    refine lv_lookup (off := 60) (tgt := 61) hx hb dX2_shapeOf_1 (by decide) (by rw [c114]; decide) (by decide) ?_
    refine va_ldcS hx hb hown (hE.2.2.1.2.2.2.2.1) dX2_shapeOf_61 ?_
    exact s_retr hQ hx hb hr (Or.inl ⟨_, rfl⟩) hlocks hS dX2_shapeOf_63
  by_cases c116 : p0 = 116
  · rw [show fX2_shapeOf p0 = 2 from by unfold fX2_shapeOf; rw [if_neg c104, if_neg c112, if_neg c114, if_pos c116]] at hQ
    refine lv_lookup (off := 54) (tgt := 55) hx hb dX2_shapeOf_1 (by decide) (by rw [c116]; decide) (by decide) ?_
    refine va_ldcS hx hb hown (hE.2.2.1.2.2.1) dX2_shapeOf_55 ?_
    exact s_retr hQ hx hb hr (Or.inl ⟨_, rfl⟩) hlocks hS dX2_shapeOf_57
  by_cases c120 : p0 = 120
  · rw [show fX2_shapeOf p0 = 3 from by unfold fX2_shapeOf; rw [if_neg c104, if_neg c112, if_neg c114, if_neg c116, if_pos c120]] at hQ
    refine lv_lookup (off := 57) (tgt := 58) hx hb dX2_shapeOf_1 (by decide) (by rw [c120]; decide) (by decide) ?_
    refine va_ldcS hx hb hown (hE.2.2.1.2.2.2.1) dX2_shapeOf_58 ?_
    exact s_retr hQ hx hb hr (Or.inl ⟨_, rfl⟩) hlocks hS dX2_shapeOf_60
  rw [show fX2_shapeOf p0 = 0 from by unfold fX2_shapeOf; rw [if_neg c104, if_neg c112, if_neg c114, if_neg c116, if_neg c120]] at hQ
  refine lv_lookup (off := 66) (tgt := 67) hx hb dX2_shapeOf_1 (by decide) (by have q104 := sw_ne (104) c104 (by decide); have q112 := sw_ne (112) c112 (by decide); have q114 := sw_ne (114) c114 (by decide); have q116 := sw_ne (116) c116 (by decide); have q120 := sw_ne (120) c120 (by decide); simp only [Op.lookupswitch.offset]; simp [q104, q104.symm, q112, q112.symm, q114, q114.symm, q116, q116.symm, q120, q120.symm]) (by decide) ?_
  refine va_ldcS hx hb hown (hE.2.2.1.1) dX2_shapeOf_67 ?_
  exact s_retr hQ hx hb hr (Or.inl ⟨_, rfl⟩) hlocks hS dX2_shapeOf_69
