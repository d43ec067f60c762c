/-! THE LAW: each of its cases, under what class and reference hold together -/
abbrev LK := Int32 → Int32 → Int32 → Int32 → (Nat → Int32) → (Nat → Int32) → (Nat → Int32) → (Nat → Int32) → (Nat → Int32) → (Nat → Int32) → (Nat → Int64) → Int32 → Int32 → Int32 → Int32 → Int32 → (Nat → Int32) → (Nat → Int32) → (Nat → Int32) → (Nat → Int32) → (Nat → Int32) → (Nat → Int32) → (Nat → Int32) → Option Unit
def KOK (k : LK) (v : Int32) (m : Nat) : Prop := ∀ (la : Int32) (cn : Int32) (us : Int32) (ch : Nat → Int32) (C : Nat → Int32) (G : Nat → Int32) (sv : Nat → Int32) (T : Nat → Int32) (B : Nat → Int32) (O : Nat → Int64) (rf : Int32) (zs : Int32) (ac : Int32) (sp : Int32) (ou : Int32) (mt : Nat → Int32) (N : Nat → Int32) (jT : Nat → Int32) (jO : Nat → Int32) (dy : Nat → Int32) (kp : Nat → Int32) (ik : Nat → Int32), ST m la cn C G sv ac N dy kp ik → TX us ch zs mt → k v la cn us ch C G sv T B O rf zs ac sp ou mt N jT jO dy kp ik = some ()
section CAS
variable {xs : Nat → Int32} {L i m : Nat} {k : LK} {la : Int32} {cn : Int32} {us : Int32} {ch : Nat → Int32} {C : Nat → Int32} {G : Nat → Int32} {sv : Nat → Int32} {T : Nat → Int32} {B : Nat → Int32} {O : Nat → Int64} {rf : Int32} {zs : Int32} {ac : Int32} {sp : Int32} {ou : Int32} {mt : Nat → Int32} {N : Nat → Int32} {jT : Nat → Int32} {jO : Nat → Int32} {dy : Nat → Int32} {kp : Nat → Int32} {ik : Nat → Int32}
theorem ix_in {j : Nat} (hj : j < 4) (hi : i + 4 ≤ L) (hL : L ≤ 2048) : vp_in (nI i + nI j) L := by
  rw [m_add]
  exact vp_in_nI (by omega) (by omega)
theorem ck {e r : Int32} {o : Int64} {X : Option Unit} (h : e = 0 → o = r.toInt64) (hX : X = some ()) : (if e = e then (if e = 0 then (if lg_cmp o r.toInt64 = 0 then X else none) else X) else none) = some () := by
  rw [if_pos rfl]
  by_cases z : e = 0
  · rw [if_pos z, h z, if_pos ((lgc _ _).2.2.mpr rfl)]
    exact hX
  · rw [if_neg z]
    exact hX
theorem p_case0 (hi : i + 4 ≤ L) (hL : L ≤ 2048) (hm : m ≤ 1000000000) (h : ST m la cn C G sv ac N dy kp ik) (hT : TX us ch zs mt) (hk : KOK k (nI i + 4) (m + 7200)) : fL_case0 xs L k (nI i) la cn us ch C G sv T B O rf zs ac sp ou mt N jT jO dy kp ik = some () := by
  have g1 : vp_in (nI i + 1) L := ix_in (j := 1) (by omega) hi hL
  unfold fL_case0
  obtain ⟨e, us', ch', O', r, zs', mt', t1, t2, t3, t4⟩ := c_append (la := la) (cn := cn) (us := us) (ch := ch) (C := C) (G := G) (sv := sv) (T := T) (B := B) (O := O) (rf := rf) (zs := zs) (ac := ac) (sp := sp) (ou := ou) (mt := mt) (N := N) (jT := jT) (jO := jO) (dy := dy) (kp := kp) (ik := ik) hT (xs (nI i + 1).toNatClampNeg)
  rw [gd_in g1, t1, Option.bind_some]
  dsimp only
  rw [gd_in g1, t2, Option.bind_some]
  dsimp only
  rw [fX4_thrown, Option.bind_some]
  exact ck t3 (hk _ _ _ _ _ _ _ _ _ _ _ _ _ _ _ _ _ _ _ _ _ _ (h.mono (by omega)) t4)
theorem p_case1 (hi : i + 4 ≤ L) (hL : L ≤ 2048) (hm : m ≤ 1000000000) (h : ST m la cn C G sv ac N dy kp ik) (hT : TX us ch zs mt) (hk : KOK k (nI i + 4) (m + 7200)) : fL_case1 xs L k (nI i) la cn us ch C G sv T B O rf zs ac sp ou mt N jT jO dy kp ik = some () := by
  unfold fL_case1
  obtain ⟨r, us', t1, t2, t4⟩ := c_clear (la := la) (cn := cn) (us := us) (ch := ch) (C := C) (G := G) (sv := sv) (T := T) (B := B) (rf := rf) (zs := zs) (ac := ac) (sp := sp) (ou := ou) (mt := mt) (N := N) (jT := jT) (jO := jO) (dy := dy) (kp := kp) (ik := ik) hT 
  rw [t1, Option.bind_some]
  dsimp only
  rw [t2, Option.bind_some]
  dsimp only
  rw [if_pos rfl]
  exact hk _ _ _ _ _ _ _ _ _ _ _ _ _ _ _ _ _ _ _ _ _ _ (h.mono (by omega)) t4
theorem p_case2 (hi : i + 4 ≤ L) (hL : L ≤ 2048) (hm : m ≤ 1000000000) (h : ST m la cn C G sv ac N dy kp ik) (hT : TX us ch zs mt) (hk : KOK k (nI i + 4) (m + 7200)) : fL_case2 xs L k (nI i) la cn us ch C G sv T B O rf zs ac sp ou mt N jT jO dy kp ik = some () := by
  unfold fL_case2
  obtain ⟨r, sp', ou', T', t1, t2⟩ := c_error (la := la) (cn := cn) (us := us) (ch := ch) (C := C) (G := G) (sv := sv) (T := T) (B := B) (rf := rf) (zs := zs) (ac := ac) (sp := sp) (ou := ou) (mt := mt) (N := N) (jT := jT) (jO := jO) (dy := dy) (kp := kp) (ik := ik) hT 
  rw [t1, Option.bind_some]
  dsimp only
  rw [t2, Option.bind_some]
  dsimp only
  rw [if_pos rfl]
  exact hk _ _ _ _ _ _ _ _ _ _ _ _ _ _ _ _ _ _ _ _ _ _ (h.mono (by omega)) hT
theorem p_case3 (hi : i + 4 ≤ L) (hL : L ≤ 2048) (hm : m ≤ 1000000000) (h : ST m la cn C G sv ac N dy kp ik) (hT : TX us ch zs mt) (hk : KOK k (nI i + 4) (m + 7200)) : fL_case3 xs L k (nI i) la cn us ch C G sv T B O rf zs ac sp ou mt N jT jO dy kp ik = some () := by
  unfold fL_case3
  obtain ⟨e, cn', C', sv', O', r, ac', sp', ou', N', T', ik', t1, t2, t3, t4⟩ := c_load (la := la) (cn := cn) (us := us) (ch := ch) (C := C) (G := G) (sv := sv) (T := T) (B := B) (Q := O) (rf := rf) (zs := zs) (ac := ac) (sp := sp) (ou := ou) (mt := mt) (N := N) (jT := jT) (jO := jO) (dy := dy) (kp := kp) (ik := ik) h hT 
  rw [t1, Option.bind_some]
  dsimp only
  rw [t2, Option.bind_some]
  dsimp only
  rw [fX4_thrown, Option.bind_some]
  exact ck t3 (hk _ _ _ _ _ _ _ _ _ _ _ _ _ _ _ _ _ _ _ _ _ _ (t4.mono (by omega)) hT)
theorem p_case4 (hi : i + 4 ≤ L) (hL : L ≤ 2048) (hm : m ≤ 1000000000) (h : ST m la cn C G sv ac N dy kp ik) (hT : TX us ch zs mt) (hk : KOK k (nI i + 4) (m + 7200)) : fL_case4 xs L k (nI i) la cn us ch C G sv T B O rf zs ac sp ou mt N jT jO dy kp ik = some () := by
  obtain ⟨a, b, κ, σ, e1, e2, e3, rfl, rfl, hO, hH, hS⟩ := id h
  have g1 : vp_in (nI i + 1) L := ix_in (j := 1) (by omega) hi hL
  unfold fL_case4
  obtain ⟨e, O', r, t1, t2, t3⟩ := q_about (la := la) (cn := cn) (us := us) (ch := ch) (G := G) (sv := sv) (T := T) (B := B) (O := O) (rf := rf) (zs := zs) (ac := ac) (sp := sp) (ou := ou) (mt := mt) (jT := jT) (jO := jO) (dy := dy) (kp := kp) (ik := ik) hO.1 hO.2.1 (xs (nI i + 1).toNatClampNeg)
  rw [gd_in g1, t1, Option.bind_some]
  dsimp only
  rw [gd_in g1, t2, Option.bind_some]
  dsimp only
  rw [fX4_thrown, Option.bind_some]
  exact ck t3 (hk _ _ _ _ _ _ _ _ _ _ _ _ _ _ _ _ _ _ _ _ _ _ (h.mono (by omega)) hT)
theorem p_case5 (hi : i + 4 ≤ L) (hL : L ≤ 2048) (hm : m ≤ 1000000000) (h : ST m la cn C G sv ac N dy kp ik) (hT : TX us ch zs mt) (hk : KOK k (nI i + 4) (m + 7200)) : fL_case5 xs L k (nI i) la cn us ch C G sv T B O rf zs ac sp ou mt N jT jO dy kp ik = some () := by
  obtain ⟨a, b, κ, σ, e1, e2, e3, rfl, rfl, hO, hH, hS⟩ := id h
  have g1 : vp_in (nI i + 1) L := ix_in (j := 1) (by omega) hi hL
  have g2 : vp_in (nI i + 2) L := ix_in (j := 2) (by omega) hi hL
  unfold fL_case5
  obtain ⟨e, O', r, t1, t2, t3⟩ := q_caterpillar (la := la) (cn := cn) (us := us) (ch := ch) (G := G) (sv := sv) (T := T) (B := B) (O := O) (rf := rf) (zs := zs) (ac := ac) (sp := sp) (ou := ou) (mt := mt) (jT := jT) (jO := jO) (dy := dy) (kp := kp) (ik := ik) hO.1 hO.2.1 (xs (nI i + 1).toNatClampNeg) (xs (nI i + 2).toNatClampNeg)
  rw [gd_in g1, gd_in g2, t1, Option.bind_some]
  dsimp only
  rw [gd_in g1, gd_in g2, t2, Option.bind_some]
  dsimp only
  rw [fX4_thrown, Option.bind_some]
  exact ck t3 (hk _ _ _ _ _ _ _ _ _ _ _ _ _ _ _ _ _ _ _ _ _ _ (h.mono (by omega)) hT)
theorem p_case6 (hi : i + 4 ≤ L) (hL : L ≤ 2048) (hm : m ≤ 1000000000) (h : ST m la cn C G sv ac N dy kp ik) (hT : TX us ch zs mt) (hk : KOK k (nI i + 4) (m + 7200)) : fL_case6 xs L k (nI i) la cn us ch C G sv T B O rf zs ac sp ou mt N jT jO dy kp ik = some () := by
  obtain ⟨a, b, κ, σ, e1, e2, e3, rfl, rfl, hO, hH, hS⟩ := id h
  have g1 : vp_in (nI i + 1) L := ix_in (j := 1) (by omega) hi hL
  have g2 : vp_in (nI i + 2) L := ix_in (j := 2) (by omega) hi hL
  unfold fL_case6
  obtain ⟨e, O', r, t1, t2, t3⟩ := q_lies (la := la) (cn := cn) (us := us) (ch := ch) (G := G) (sv := sv) (T := T) (B := B) (O := O) (rf := rf) (zs := zs) (ac := ac) (sp := sp) (ou := ou) (mt := mt) (jT := jT) (jO := jO) (dy := dy) (kp := kp) (ik := ik) hO.1 hO.2.1 (xs (nI i + 1).toNatClampNeg) (xs (nI i + 2).toNatClampNeg)
  rw [gd_in g1, gd_in g2, t1, Option.bind_some]
  dsimp only
  rw [gd_in g1, gd_in g2, t2, Option.bind_some]
  dsimp only
  rw [fX4_thrown, Option.bind_some]
  exact ck t3 (hk _ _ _ _ _ _ _ _ _ _ _ _ _ _ _ _ _ _ _ _ _ _ (h.mono (by omega)) hT)
theorem p_case7 (hi : i + 4 ≤ L) (hL : L ≤ 2048) (hm : m ≤ 1000000000) (h : ST m la cn C G sv ac N dy kp ik) (hT : TX us ch zs mt) (hk : KOK k (nI i + 4) (m + 7200)) : fL_case7 xs L k (nI i) la cn us ch C G sv T B O rf zs ac sp ou mt N jT jO dy kp ik = some () := by
  obtain ⟨a, b, κ, σ, e1, e2, e3, rfl, rfl, hO, hH, hS⟩ := id h
  have g1 : vp_in (nI i + 1) L := ix_in (j := 1) (by omega) hi hL
  have g2 : vp_in (nI i + 2) L := ix_in (j := 2) (by omega) hi hL
  unfold fL_case7
  obtain ⟨e, O', r, t1, t2, t3⟩ := q_room (la := la) (cn := cn) (us := us) (ch := ch) (G := G) (sv := sv) (T := T) (B := B) (O := O) (rf := rf) (zs := zs) (ac := ac) (sp := sp) (ou := ou) (mt := mt) (jT := jT) (jO := jO) (dy := dy) (kp := kp) (ik := ik) hO.1 hO.2.1 (xs (nI i + 1).toNatClampNeg) (xs (nI i + 2).toNatClampNeg)
  rw [gd_in g1, gd_in g2, t1, Option.bind_some]
  dsimp only
  rw [gd_in g1, gd_in g2, t2, Option.bind_some]
  dsimp only
  rw [fX4_thrown, Option.bind_some]
  exact ck t3 (hk _ _ _ _ _ _ _ _ _ _ _ _ _ _ _ _ _ _ _ _ _ _ (h.mono (by omega)) hT)
theorem p_case8 (hi : i + 4 ≤ L) (hL : L ≤ 2048) (hm : m ≤ 1000000000) (h : ST m la cn C G sv ac N dy kp ik) (hT : TX us ch zs mt) (hk : KOK k (nI i + 4) (m + 7200)) : fL_case8 xs L k (nI i) la cn us ch C G sv T B O rf zs ac sp ou mt N jT jO dy kp ik = some () := by
  obtain ⟨a, b, κ, σ, e1, e2, e3, rfl, rfl, hO, hH, hS⟩ := id h
  have g1 : vp_in (nI i + 1) L := ix_in (j := 1) (by omega) hi hL
  unfold fL_case8
  obtain ⟨e, O', r, t1, t2, t3⟩ := q_next (la := la) (cn := cn) (us := us) (ch := ch) (G := G) (sv := sv) (T := T) (B := B) (O := O) (rf := rf) (zs := zs) (ac := ac) (sp := sp) (ou := ou) (mt := mt) (jT := jT) (jO := jO) (dy := dy) (kp := kp) (ik := ik) hO.1 hO.2.1 (xs (nI i + 1).toNatClampNeg)
  rw [gd_in g1, t1, Option.bind_some]
  dsimp only
  rw [gd_in g1, t2, Option.bind_some]
  dsimp only
  rw [fX4_thrown, Option.bind_some]
  exact ck t3 (hk _ _ _ _ _ _ _ _ _ _ _ _ _ _ _ _ _ _ _ _ _ _ (h.mono (by omega)) hT)
theorem p_case9 (hi : i + 4 ≤ L) (hL : L ≤ 2048) (hm : m ≤ 1000000000) (h : ST m la cn C G sv ac N dy kp ik) (hT : TX us ch zs mt) (hk : KOK k (nI i + 4) (m + 7200)) : fL_case9 xs L k (nI i) la cn us ch C G sv T B O rf zs ac sp ou mt N jT jO dy kp ik = some () := by
  obtain ⟨a, b, κ, σ, e1, e2, e3, rfl, rfl, hO, hH, hS⟩ := id h
  have g1 : vp_in (nI i + 1) L := ix_in (j := 1) (by omega) hi hL
  unfold fL_case9
  obtain ⟨e, O', r, t1, t2, t3⟩ := q_waitsFor (la := la) (cn := cn) (us := us) (ch := ch) (G := G) (sv := sv) (T := T) (B := B) (O := O) (rf := rf) (zs := zs) (ac := ac) (sp := sp) (ou := ou) (mt := mt) (jT := jT) (jO := jO) (dy := dy) (kp := kp) (ik := ik) hO.1 hO.2.1 (xs (nI i + 1).toNatClampNeg)
  rw [gd_in g1, t1, Option.bind_some]
  dsimp only
  rw [gd_in g1, t2, Option.bind_some]
  dsimp only
  rw [fX4_thrown, Option.bind_some]
  exact ck t3 (hk _ _ _ _ _ _ _ _ _ _ _ _ _ _ _ _ _ _ _ _ _ _ (h.mono (by omega)) hT)
theorem p_case10 (hi : i + 4 ≤ L) (hL : L ≤ 2048) (hm : m ≤ 1000000000) (h : ST m la cn C G sv ac N dy kp ik) (hT : TX us ch zs mt) (hk : KOK k (nI i + 4) (m + 7200)) : fL_case10 xs L k (nI i) la cn us ch C G sv T B O rf zs ac sp ou mt N jT jO dy kp ik = some () := by
  obtain ⟨a, b, κ, σ, e1, e2, e3, rfl, rfl, hO, hH, hS⟩ := id h
  have g1 : vp_in (nI i + 1) L := ix_in (j := 1) (by omega) hi hL
  unfold fL_case10
  obtain ⟨e, O', r, t1, t2, t3⟩ := q_ring (la := la) (cn := cn) (us := us) (ch := ch) (G := G) (sv := sv) (T := T) (B := B) (O := O) (rf := rf) (zs := zs) (ac := ac) (sp := sp) (ou := ou) (mt := mt) (jT := jT) (jO := jO) (dy := dy) (kp := kp) (ik := ik) hO.1 hO.2.1 (xs (nI i + 1).toNatClampNeg)
  rw [gd_in g1, t1, Option.bind_some]
  dsimp only
  rw [gd_in g1, t2, Option.bind_some]
  dsimp only
  rw [fX4_thrown, Option.bind_some]
  exact ck t3 (hk _ _ _ _ _ _ _ _ _ _ _ _ _ _ _ _ _ _ _ _ _ _ (h.mono (by omega)) hT)
theorem p_case11 (hi : i + 4 ≤ L) (hL : L ≤ 2048) (hm : m ≤ 1000000000) (h : ST m la cn C G sv ac N dy kp ik) (hT : TX us ch zs mt) (hk : KOK k (nI i + 4) (m + 7200)) : fL_case11 xs L k (nI i) la cn us ch C G sv T B O rf zs ac sp ou mt N jT jO dy kp ik = some () := by
  have g1 : vp_in (nI i + 1) L := ix_in (j := 1) (by omega) hi hL
  have g2 : vp_in (nI i + 2) L := ix_in (j := 2) (by omega) hi hL
  have g3 : vp_in (nI i + 3) L := ix_in (j := 3) (by omega) hi hL
  unfold fL_case11
  obtain ⟨e, la', cn', C', G', O', r, ac', N', dy', t1, t2, t3, t4⟩ := c_hatch (la := la) (cn := cn) (us := us) (ch := ch) (C := C) (G := G) (sv := sv) (T := T) (B := B) (O := O) (rf := rf) (zs := zs) (ac := ac) (sp := sp) (ou := ou) (mt := mt) (N := N) (jT := jT) (jO := jO) (dy := dy) (kp := kp) (ik := ik) h (xs (nI i + 1).toNatClampNeg) (xs (nI i + 2).toNatClampNeg) (xs (nI i + 3).toNatClampNeg)
  rw [gd_in g1, gd_in g2, gd_in g3, t1, Option.bind_some]
  dsimp only
  rw [gd_in g1, gd_in g2, gd_in g3, t2, Option.bind_some]
  dsimp only
  rw [fX4_thrown, Option.bind_some]
  exact ck t3 (hk _ _ _ _ _ _ _ _ _ _ _ _ _ _ _ _ _ _ _ _ _ _ (t4.mono (by omega)) hT)
theorem p_case12 (hi : i + 4 ≤ L) (hL : L ≤ 2048) (hm : m ≤ 1000000000) (h : ST m la cn C G sv ac N dy kp ik) (hT : TX us ch zs mt) (hk : KOK k (nI i + 4) (m + 7200)) : fL_case12 xs L k (nI i) la cn us ch C G sv T B O rf zs ac sp ou mt N jT jO dy kp ik = some () := by
  have g1 : vp_in (nI i + 1) L := ix_in (j := 1) (by omega) hi hL
  unfold fL_case12
  obtain ⟨e, la', cn', C', G', O', r, ac', N', dy', t1, t2, t3, t4⟩ := c_ticks (la := la) (cn := cn) (us := us) (ch := ch) (C := C) (G := G) (sv := sv) (T := T) (B := B) (O := O) (rf := rf) (zs := zs) (ac := ac) (sp := sp) (ou := ou) (mt := mt) (N := N) (jT := jT) (jO := jO) (dy := dy) (kp := kp) (ik := ik) h (xs (nI i + 1).toNatClampNeg)
  rw [gd_in g1, t1, Option.bind_some]
  dsimp only
  rw [gd_in g1, t2, Option.bind_some]
  dsimp only
  rw [fX4_thrown, Option.bind_some]
  exact ck t3 (hk _ _ _ _ _ _ _ _ _ _ _ _ _ _ _ _ _ _ _ _ _ _ (t4.mono (by omega)) hT)
theorem p_case13 (hi : i + 4 ≤ L) (hL : L ≤ 2048) (hm : m ≤ 1000000000) (h : ST m la cn C G sv ac N dy kp ik) (hT : TX us ch zs mt) (hk : KOK k (nI i + 4) (m + 7200)) : fL_case13 xs L k (nI i) la cn us ch C G sv T B O rf zs ac sp ou mt N jT jO dy kp ik = some () := by
  have g1 : vp_in (nI i + 1) L := ix_in (j := 1) (by omega) hi hL
  unfold fL_case13
  obtain ⟨e, la', cn', C', G', O', r, ac', N', dy', t1, t2, t3, t4⟩ := c_rule (la := la) (cn := cn) (us := us) (ch := ch) (C := C) (G := G) (sv := sv) (T := T) (B := B) (O := O) (rf := rf) (zs := zs) (ac := ac) (sp := sp) (ou := ou) (mt := mt) (N := N) (jT := jT) (jO := jO) (dy := dy) (kp := kp) (ik := ik) h (xs (nI i + 1).toNatClampNeg)
  rw [gd_in g1, t1, Option.bind_some]
  dsimp only
  rw [gd_in g1, t2, Option.bind_some]
  dsimp only
  rw [fX4_thrown, Option.bind_some]
  exact ck t3 (hk _ _ _ _ _ _ _ _ _ _ _ _ _ _ _ _ _ _ _ _ _ _ (t4.mono (by omega)) hT)
theorem p_case14 (hi : i + 4 ≤ L) (hL : L ≤ 2048) (hm : m ≤ 1000000000) (h : ST m la cn C G sv ac N dy kp ik) (hT : TX us ch zs mt) (hk : KOK k (nI i + 4) (m + 7200)) : fL_case14 xs L k (nI i) la cn us ch C G sv T B O rf zs ac sp ou mt N jT jO dy kp ik = some () := by
  have g1 : vp_in (nI i + 1) L := ix_in (j := 1) (by omega) hi hL
  have g2 : vp_in (nI i + 2) L := ix_in (j := 2) (by omega) hi hL
  unfold fL_case14
  rw [gd_in g1, gd_in g2]
  by_cases z : (xs (nI i + 2).toNatClampNeg) = 0
  · obtain ⟨e, la', cn', C', G', O', r, ac', N', dy', t1, t2, t3, t4⟩ := c_shut (la := la) (cn := cn) (us := us) (ch := ch) (C := C) (G := G) (sv := sv) (T := T) (B := B) (O := O) (rf := rf) (zs := zs) (ac := ac) (sp := sp) (ou := ou) (mt := mt) (N := N) (jT := jT) (jO := jO) (dy := dy) (kp := kp) (ik := ik) h (xs (nI i + 1).toNatClampNeg) false
    rw [show nI (bN false) = 0 from rfl] at t1 t2
    rw [if_pos z, t1, Option.bind_some]
    dsimp only
    rw [gd_in g1, gd_in g2, if_pos z, t2, Option.bind_some]
    dsimp only
    rw [fX4_thrown, Option.bind_some]
    exact ck t3 (hk _ _ _ _ _ _ _ _ _ _ _ _ _ _ _ _ _ _ _ _ _ _ (t4.mono (by omega)) hT)
  · obtain ⟨e, la', cn', C', G', O', r, ac', N', dy', t1, t2, t3, t4⟩ := c_shut (la := la) (cn := cn) (us := us) (ch := ch) (C := C) (G := G) (sv := sv) (T := T) (B := B) (O := O) (rf := rf) (zs := zs) (ac := ac) (sp := sp) (ou := ou) (mt := mt) (N := N) (jT := jT) (jO := jO) (dy := dy) (kp := kp) (ik := ik) h (xs (nI i + 1).toNatClampNeg) true
    rw [show nI (bN true) = 1 from rfl] at t1 t2
    rw [if_neg z, t1, Option.bind_some]
    dsimp only
    rw [gd_in g1, gd_in g2, if_neg z, t2, Option.bind_some]
    dsimp only
    rw [fX4_thrown, Option.bind_some]
    exact ck t3 (hk _ _ _ _ _ _ _ _ _ _ _ _ _ _ _ _ _ _ _ _ _ _ (t4.mono (by omega)) hT)
theorem p_case15 (hi : i + 4 ≤ L) (hL : L ≤ 2048) (hm : m ≤ 1000000000) (h : ST m la cn C G sv ac N dy kp ik) (hT : TX us ch zs mt) (hk : KOK k (nI i + 4) (m + 7200)) : fL_case15 xs L k (nI i) la cn us ch C G sv T B O rf zs ac sp ou mt N jT jO dy kp ik = some () := by
  have g1 : vp_in (nI i + 1) L := ix_in (j := 1) (by omega) hi hL
  unfold fL_case15
  obtain ⟨e, la', cn', C', G', O', r, ac', N', dy', t1, t2, t3, t4⟩ := c_pull (la := la) (cn := cn) (us := us) (ch := ch) (C := C) (G := G) (sv := sv) (T := T) (B := B) (O := O) (rf := rf) (zs := zs) (ac := ac) (sp := sp) (ou := ou) (mt := mt) (N := N) (jT := jT) (jO := jO) (dy := dy) (kp := kp) (ik := ik) h (xs (nI i + 1).toNatClampNeg)
  rw [gd_in g1, t1, Option.bind_some]
  dsimp only
  rw [gd_in g1, t2, Option.bind_some]
  dsimp only
  rw [fX4_thrown, Option.bind_some]
  exact ck t3 (hk _ _ _ _ _ _ _ _ _ _ _ _ _ _ _ _ _ _ _ _ _ _ (t4.mono (by omega)) hT)
theorem p_case16 (hi : i + 4 ≤ L) (hL : L ≤ 2048) (hm : m ≤ 1000000000) (h : ST m la cn C G sv ac N dy kp ik) (hT : TX us ch zs mt) (hk : KOK k (nI i + 4) (m + 7200)) : fL_case16 xs L k (nI i) la cn us ch C G sv T B O rf zs ac sp ou mt N jT jO dy kp ik = some () := by
  unfold fL_case16
  obtain ⟨e, la', cn', C', O', r, ac', N', t1, t2, t3, t4⟩ := c_undo (la := la) (cn := cn) (us := us) (ch := ch) (C := C) (G := G) (sv := sv) (T := T) (B := B) (O := O) (rf := rf) (zs := zs) (ac := ac) (sp := sp) (ou := ou) (mt := mt) (N := N) (jT := jT) (jO := jO) (dy := dy) (kp := kp) (ik := ik) h 
  rw [t1, Option.bind_some]
  dsimp only
  rw [t2, Option.bind_some]
  dsimp only
  rw [fX4_thrown, Option.bind_some]
  exact ck t3 (hk _ _ _ _ _ _ _ _ _ _ _ _ _ _ _ _ _ _ _ _ _ _ (t4.mono (by omega)) hT)
theorem p_case17 (hi : i + 4 ≤ L) (hL : L ≤ 2048) (hm : m ≤ 1000000000) (h : ST m la cn C G sv ac N dy kp ik) (hT : TX us ch zs mt) (hk : KOK k (nI i + 4) (m + 7200)) : fL_case17 xs L k (nI i) la cn us ch C G sv T B O rf zs ac sp ou mt N jT jO dy kp ik = some () := by
  obtain ⟨a, b, κ, σ, e1, e2, e3, rfl, rfl, hO, hH, hS⟩ := id h
  have g1 : vp_in (nI i + 1) L := ix_in (j := 1) (by omega) hi hL
  unfold fL_case17
  obtain ⟨e, B', O', r, T', t1, t2, t3⟩ := q_goneIn (la := la) (cn := cn) (us := us) (ch := ch) (G := G) (sv := sv) (T := T) (B := B) (O := O) (rf := rf) (zs := zs) (ac := ac) (sp := sp) (ou := ou) (mt := mt) (jT := jT) (jO := jO) (dy := dy) (kp := kp) (ik := ik) hO hm (xs (nI i + 1).toNatClampNeg)
  rw [gd_in g1, t1, Option.bind_some]
  dsimp only
  rw [gd_in g1, t2, Option.bind_some]
  dsimp only
  rw [fX4_thrown, Option.bind_some]
  exact ck t3 (hk _ _ _ _ _ _ _ _ _ _ _ _ _ _ _ _ _ _ _ _ _ _ (h.mono (by omega)) hT)
theorem p_case18 (hi : i + 4 ≤ L) (hL : L ≤ 2048) (hm : m ≤ 1000000000) (h : ST m la cn C G sv ac N dy kp ik) (hT : TX us ch zs mt) (hk : KOK k (nI i + 4) (m + 7200)) : fL_case18 xs L k (nI i) la cn us ch C G sv T B O rf zs ac sp ou mt N jT jO dy kp ik = some () := by
  obtain ⟨a, b, κ, σ, e1, e2, e3, rfl, rfl, hO, hH, hS⟩ := id h
  unfold fL_case18
  obtain ⟨r, B', T', t1, t2⟩ := q_through (la := la) (cn := cn) (us := us) (ch := ch) (G := G) (sv := sv) (T := T) (B := B) (rf := rf) (zs := zs) (ac := ac) (sp := sp) (ou := ou) (mt := mt) (jT := jT) (jO := jO) (dy := dy) (kp := kp) (ik := ik) hO 
  rw [t1, Option.bind_some]
  dsimp only
  rw [t2, Option.bind_some]
  dsimp only
  rw [if_pos rfl]
  exact hk _ _ _ _ _ _ _ _ _ _ _ _ _ _ _ _ _ _ _ _ _ _ (h.mono (by omega)) hT
theorem p_case19 (hi : i + 4 ≤ L) (hL : L ≤ 2048) (hm : m ≤ 1000000000) (h : ST m la cn C G sv ac N dy kp ik) (hT : TX us ch zs mt) (hk : KOK k (nI i + 4) (m + 7200)) : fL_case19 xs L k (nI i) la cn us ch C G sv T B O rf zs ac sp ou mt N jT jO dy kp ik = some () := by
  obtain ⟨a, b, κ, σ, e1, e2, e3, rfl, rfl, hO, hH, hS⟩ := id h
  unfold fL_case19
  obtain ⟨r, T', B', T2, t1, t2⟩ := q_bestRule (la := la) (cn := cn) (us := us) (ch := ch) (G := G) (sv := sv) (T := T) (B := B) (rf := rf) (zs := zs) (ac := ac) (sp := sp) (ou := ou) (mt := mt) (jT := jT) (jO := jO) (dy := dy) (kp := kp) (ik := ik) hO 
  rw [t1, Option.bind_some]
  dsimp only
  rw [t2, Option.bind_some]
  dsimp only
  rw [if_pos rfl]
  exact hk _ _ _ _ _ _ _ _ _ _ _ _ _ _ _ _ _ _ _ _ _ _ (h.mono (by omega)) hT
theorem p_case20 (hi : i + 4 ≤ L) (hL : L ≤ 2048) (hm : m ≤ 1000000000) (h : ST m la cn C G sv ac N dy kp ik) (hT : TX us ch zs mt) (hk : KOK k (nI i + 4) (m + 7200)) : fL_case20 xs L k (nI i) la cn us ch C G sv T B O rf zs ac sp ou mt N jT jO dy kp ik = some () := by
  obtain ⟨a, b, κ, σ, e1, e2, e3, rfl, rfl, hO, hH, hS⟩ := id h
  unfold fL_case20
  obtain ⟨r, T', B', T2, O2, t1, t2⟩ := q_bestPull (la := la) (cn := cn) (us := us) (ch := ch) (G := G) (sv := sv) (T := T) (B := B) (rf := rf) (zs := zs) (ac := ac) (sp := sp) (ou := ou) (mt := mt) (jT := jT) (jO := jO) (dy := dy) (kp := kp) (ik := ik) hO 
  rw [t1, Option.bind_some]
  dsimp only
  rw [t2, Option.bind_some]
  dsimp only
  rw [if_pos rfl]
  exact hk _ _ _ _ _ _ _ _ _ _ _ _ _ _ _ _ _ _ _ _ _ _ (h.mono (by omega)) hT
theorem p_case21 (hi : i + 4 ≤ L) (hL : L ≤ 2048) (hm : m ≤ 1000000000) (h : ST m la cn C G sv ac N dy kp ik) (hT : TX us ch zs mt) (hk : KOK k (nI i + 4) (m + 7200)) : fL_case21 xs L k (nI i) la cn us ch C G sv T B O rf zs ac sp ou mt N jT jO dy kp ik = some () := by
  obtain ⟨a, b, κ, σ, e1, e2, e3, rfl, rfl, hO, hH, hS⟩ := id h
  have g1 : vp_in (nI i + 1) L := ix_in (j := 1) (by omega) hi hL
  have g2 : vp_in (nI i + 2) L := ix_in (j := 2) (by omega) hi hL
  have g3 : vp_in (nI i + 3) L := ix_in (j := 3) (by omega) hi hL
  unfold fL_case21
  obtain ⟨e, T2, B', O', r, T', t1, t2, t3⟩ := q_ifHatched (la := la) (cn := cn) (us := us) (ch := ch) (G := G) (sv := sv) (T := T) (B := B) (O := O) (rf := rf) (zs := zs) (ac := ac) (sp := sp) (ou := ou) (mt := mt) (jT := jT) (jO := jO) (dy := dy) (kp := kp) (ik := ik) hO hm (xs (nI i + 1).toNatClampNeg) (xs (nI i + 2).toNatClampNeg) (xs (nI i + 3).toNatClampNeg)
  rw [gd_in g1, gd_in g2, gd_in g3, t1, Option.bind_some]
  dsimp only
  rw [gd_in g1, gd_in g2, gd_in g3, t2, Option.bind_some]
  dsimp only
  rw [fX4_thrown, Option.bind_some]
  exact ck t3 (hk _ _ _ _ _ _ _ _ _ _ _ _ _ _ _ _ _ _ _ _ _ _ (h.mono (by omega)) hT)
theorem p_case22 (hi : i + 4 ≤ L) (hL : L ≤ 2048) (hm : m ≤ 1000000000) (h : ST m la cn C G sv ac N dy kp ik) (hT : TX us ch zs mt) (hk : KOK k (nI i + 4) (m + 7200)) : fL_case22 xs L k (nI i) la cn us ch C G sv T B O rf zs ac sp ou mt N jT jO dy kp ik = some () := by
  obtain ⟨a, b, κ, σ, e1, e2, e3, rfl, rfl, hO, hH, hS⟩ := id h
  have g1 : vp_in (nI i + 1) L := ix_in (j := 1) (by omega) hi hL
  have g2 : vp_in (nI i + 2) L := ix_in (j := 2) (by omega) hi hL
  have g3 : vp_in (nI i + 3) L := ix_in (j := 3) (by omega) hi hL
  unfold fL_case22
  obtain ⟨e, T', B', O', r, T2, O2, t1, t2, t3⟩ := q_runScript (la := la) (cn := cn) (us := us) (ch := ch) (G := G) (sv := sv) (T := T) (B := B) (Q := O) (rf := rf) (zs := zs) (ac := ac) (sp := sp) (ou := ou) (mt := mt) (jT := jT) (jO := jO) (dy := dy) (kp := kp) (ik := ik) hO (xs (nI i + 1).toNatClampNeg) (((xs (nI i + 2).toNatClampNeg).toInt64 <<< ((32 : Int32).toInt64 &&& 63)) ||| ((xs (nI i + 3).toNatClampNeg).toInt64 &&& 4294967295))
  rw [gd_in g1, gd_in g2, gd_in g3, t1, Option.bind_some]
  dsimp only
  rw [gd_in g1, gd_in g2, gd_in g3, t2, Option.bind_some]
  dsimp only
  rw [fX4_thrown, Option.bind_some]
  exact ck t3 (hk _ _ _ _ _ _ _ _ _ _ _ _ _ _ _ _ _ _ _ _ _ _ (h.mono (by omega)) hT)
theorem p_case23 (hi : i + 4 ≤ L) (hL : L ≤ 2048) (hm : m ≤ 1000000000) (h : ST m la cn C G sv ac N dy kp ik) (hT : TX us ch zs mt) (hk : KOK k (nI i + 4) (m + 7200)) : fL_case23 xs L k (nI i) la cn us ch C G sv T B O rf zs ac sp ou mt N jT jO dy kp ik = some () := by
  obtain ⟨a, b, κ, σ, e1, e2, e3, rfl, rfl, hO, hH, hS⟩ := id h
  have g1 : vp_in (nI i + 1) L := ix_in (j := 1) (by omega) hi hL
  have g2 : vp_in (nI i + 2) L := ix_in (j := 2) (by omega) hi hL
  have g3 : vp_in (nI i + 3) L := ix_in (j := 3) (by omega) hi hL
  unfold fL_case23
  obtain ⟨e, T', O', r, T2, t1, t2, t3⟩ := q_simulate (la := la) (cn := cn) (us := us) (ch := ch) (G := G) (sv := sv) (T := T) (B := B) (Q := O) (rf := rf) (zs := zs) (ac := ac) (sp := sp) (ou := ou) (mt := mt) (jT := jT) (jO := jO) (dy := dy) (kp := kp) (ik := ik) hO (((xs (nI i + 1).toNatClampNeg).toInt64 <<< ((32 : Int32).toInt64 &&& 63)) ||| ((xs (nI i + 2).toNatClampNeg).toInt64 &&& 4294967295)) (xs (nI i + 3).toNatClampNeg)
  rw [gd_in g1, gd_in g2, gd_in g3, t1, Option.bind_some]
  dsimp only
  rw [gd_in g1, gd_in g2, gd_in g3, t2, Option.bind_some]
  dsimp only
  rw [fX4_thrown, Option.bind_some]
  exact ck t3 (hk _ _ _ _ _ _ _ _ _ _ _ _ _ _ _ _ _ _ _ _ _ _ (h.mono (by omega)) hT)
theorem p_case24 (hi : i + 4 ≤ L) (hL : L ≤ 2048) (hm : m ≤ 1000000000) (h : ST m la cn C G sv ac N dy kp ik) (hT : TX us ch zs mt) (hk : KOK k (nI i + 4) (m + 7200)) : fL_case24 xs L k (nI i) la cn us ch C G sv T B O rf zs ac sp ou mt N jT jO dy kp ik = some () := by
  have g1 : vp_in (nI i + 1) L := ix_in (j := 1) (by omega) hi hL
  unfold fL_case24
  obtain ⟨e, G', sv', O', r, kp', ik', t1, t2, t3, t4⟩ := c_save (la := la) (cn := cn) (us := us) (ch := ch) (C := C) (G := G) (sv := sv) (T := T) (B := B) (O := O) (rf := rf) (zs := zs) (ac := ac) (sp := sp) (ou := ou) (mt := mt) (N := N) (jT := jT) (jO := jO) (dy := dy) (kp := kp) (ik := ik) h (xs (nI i + 1).toNatClampNeg)
  rw [gd_in g1, t1, Option.bind_some]
  dsimp only
  rw [gd_in g1, t2, Option.bind_some]
  dsimp only
  rw [fX4_thrown, Option.bind_some]
  exact ck t3 (hk _ _ _ _ _ _ _ _ _ _ _ _ _ _ _ _ _ _ _ _ _ _ (t4.mono (by omega)) hT)
theorem p_case25 (hi : i + 4 ≤ L) (hL : L ≤ 2048) (hm : m ≤ 1000000000) (h : ST m la cn C G sv ac N dy kp ik) (hT : TX us ch zs mt) (hk : KOK k (nI i + 4) (m + 7200)) : fL_case25 xs L k (nI i) la cn us ch C G sv T B O rf zs ac sp ou mt N jT jO dy kp ik = some () := by
  have g1 : vp_in (nI i + 1) L := ix_in (j := 1) (by omega) hi hL
  unfold fL_case25
  obtain ⟨e, cn', C', O', r, ac', N', t1, t2, t3, t4⟩ := c_restore (la := la) (cn := cn) (us := us) (ch := ch) (C := C) (G := G) (sv := sv) (T := T) (B := B) (O := O) (rf := rf) (zs := zs) (ac := ac) (sp := sp) (ou := ou) (mt := mt) (N := N) (jT := jT) (jO := jO) (dy := dy) (kp := kp) (ik := ik) h (xs (nI i + 1).toNatClampNeg)
  rw [gd_in g1, t1, Option.bind_some]
  dsimp only
  rw [gd_in g1, t2, Option.bind_some]
  dsimp only
  rw [fX4_thrown, Option.bind_some]
  exact ck t3 (hk _ _ _ _ _ _ _ _ _ _ _ _ _ _ _ _ _ _ _ _ _ _ (t4.mono (by omega)) hT)
end CAS
