-- X0_empty
noncomputable def fX0_empty_25 (k2 : Int32 → (Nat → Int32) → Option ((Nat → Int32))) (v1 : Int32) (z0 : Int32) (z1 : Int32) (C : Nat → Int32) : Option ((Nat → Int32)) := gd z1 256 (k2 (v1 + 1) (upd C (z1.toNatClampNeg) z0))
noncomputable def fX0_empty_2 : Nat → Int32 → (Nat → Int32) → Option ((Nat → Int32))
  | 0, _, _ => none
  | n + 1, v1, C => (if 256 ≤ v1 then some C else (if 40 ≤ v1 then fX0_empty_25 (fX0_empty_2 n) v1 (-1) v1 C else fX0_empty_25 (fX0_empty_2 n) v1 0 v1 C))
noncomputable def fX0_empty (C : Nat → Int32) : Option ((Nat → Int32)) := fX0_empty_2 5000 0 C
-- X0_count
noncomputable def fX0_count (C : Nat → Int32) : Option (Int32) := some (C 0)
-- X0_number
noncomputable def fX0_number (C : Nat → Int32) (p0 : Int32) (p1 : Int32) : Option (Int32) := (if p0 < 0 then some (-1) else (if 10 ≤ p0 then some (-1) else (if p1 < 0 then some (-1) else (if p1 < 18 then gd ((76 + (p0 * 18)) + p1) 256 (some (C ((76 + (p0 * 18)) + p1).toNatClampNeg)) else some (-1)))))
-- X0_isWhere
noncomputable def fX0_isWhere (C : Nat → Int32) (p0 : Int32) (p1 : Int32) : Option (Int32) := ((fX0_number C p0 0).bind fun r_2 => (if r_2 = p1 then some 1 else some 0))
-- X0_countWhere
noncomputable def fX0_countWhere_22 (k4 : Int32 → Int32 → Option (Int32)) (v2 : Int32) (v3 : Int32) : Option (Int32) := k4 v2 (v3 + 1)
noncomputable def fX0_countWhere_4 (C : Nat → Int32) (p0 : Int32) : Nat → Int32 → Int32 → Option (Int32)
  | 0, _, _ => none
  | n + 1, v2, v3 => (if 10 ≤ v3 then some v2 else ((fX0_isWhere C v3 p0).bind fun r_3 => (if r_3 = 0 then fX0_countWhere_22 (fX0_countWhere_4 C p0 n) v2 v3 else fX0_countWhere_22 (fX0_countWhere_4 C p0 n) (v2 + 1) v3)))
noncomputable def fX0_countWhere (C : Nat → Int32) (p0 : Int32) : Option (Int32) := fX0_countWhere_4 C p0 5000 0 0
-- X0_ticksSoFar
noncomputable def fX0_ticksSoFar (C : Nat → Int32) : Option (Int32) := some (C 2)
-- X3_isRoom
noncomputable def fX3_isRoom (p0 : Int32) : Option (Int32) := (if p0 < 0 then some 0 else (if 36 ≤ p0 then some 0 else some 1))
-- X0_takerOf
noncomputable def fX0_takerOf (C : Nat → Int32) (p0 : Int32) : Option (Int32) := ((fX3_isRoom p0).bind fun r_2 => (if r_2 = 0 then some (-1) else gd (40 + p0) 256 (some (C (40 + p0).toNatClampNeg))))
-- X0_isTaken
noncomputable def fX0_isTaken (C : Nat → Int32) (p0 : Int32) : Option (Int32) := ((fX0_takerOf C p0).bind fun r_2 => (if r_2 = (-1) then some 0 else some 1))
-- X0_takenRooms
noncomputable def fX0_takenRooms_21 (k4 : Int32 → Int32 → Option (Int32)) (v1 : Int32) (v2 : Int32) : Option (Int32) := k4 v1 (v2 + 1)
noncomputable def fX0_takenRooms_4 (C : Nat → Int32) : Nat → Int32 → Int32 → Option (Int32)
  | 0, _, _ => none
  | n + 1, v1, v2 => (if 36 ≤ v2 then some v1 else ((fX0_isTaken C v2).bind fun r_3 => (if r_3 = 0 then fX0_takenRooms_21 (fX0_takenRooms_4 C n) v1 v2 else fX0_takenRooms_21 (fX0_takenRooms_4 C n) (v1 + 1) v2)))
noncomputable def fX0_takenRooms (C : Nat → Int32) : Option (Int32) := fX0_takenRooms_4 C 5000 0 0
-- X0_isShut
noncomputable def fX0_isShut (C : Nat → Int32) (p0 : Int32) : Option (Int32) := ((fX3_isRoom p0).bind fun r_2 => (if r_2 = 0 then some 0 else gd (4 + p0) 256 ((if (C (4 + p0).toNatClampNeg) = 0 then some 0 else some 1))))
-- X0_shutRooms
noncomputable def fX0_shutRooms_21 (k4 : Int32 → Int32 → Option (Int32)) (v1 : Int32) (v2 : Int32) : Option (Int32) := k4 v1 (v2 + 1)
noncomputable def fX0_shutRooms_4 (C : Nat → Int32) : Nat → Int32 → Int32 → Option (Int32)
  | 0, _, _ => none
  | n + 1, v1, v2 => (if 36 ≤ v2 then some v1 else ((fX0_isShut C v2).bind fun r_3 => (if r_3 = 0 then fX0_shutRooms_21 (fX0_shutRooms_4 C n) v1 v2 else fX0_shutRooms_21 (fX0_shutRooms_4 C n) (v1 + 1) v2)))
noncomputable def fX0_shutRooms (C : Nat → Int32) : Option (Int32) := fX0_shutRooms_4 C 5000 0 0
-- X0_presentRule
noncomputable def fX0_presentRule (C : Nat → Int32) : Option (Int32) := some (C 1)
-- X0_waitsSoFar
noncomputable def fX0_waitsSoFar (C : Nat → Int32) : Option (Int32) := some (C 3)
-- X0_has
noncomputable def fX0_has (C : Nat → Int32) (p0 : Int32) : Option (Int32) := (if p0 < 0 then some 0 else (if (C 0) ≤ p0 then some 0 else some 1))
-- X0_stepAlongRow
noncomputable def fX0_stepAlongRow (p0 : Int32) (p1 : Int32) : Option (Int32) := (if ((p1 - p1 / 6 * 6) - (p0 - p0 / 6 * 6)) = 0 then some (-1) else (if ((p1 - p1 / 6 * 6) - (p0 - p0 / 6 * 6)) ≤ 0 then some (p0 - 1) else some (p0 + 1)))
-- X0_stepAlongColumn
noncomputable def fX0_stepAlongColumn (p0 : Int32) (p1 : Int32) : Option (Int32) := (if ((p1 / 6) - (p0 / 6)) = 0 then some (-1) else (if ((p1 / 6) - (p0 / 6)) ≤ 0 then some (p0 - 6) else some (p0 + 6)))
-- X0_isFree
noncomputable def fX0_isFree (C : Nat → Int32) (p0 : Int32) : Option (Int32) := (if p0 < 0 then some 0 else (if 36 ≤ p0 then some 0 else gd (4 + p0) 256 ((if (C (4 + p0).toNatClampNeg) = 0 then gd (40 + p0) 256 ((if (C (40 + p0).toNatClampNeg) = (-1) then some 1 else some 0)) else some 0))))
-- X0_nextRoomOf
noncomputable def fX0_nextRoomOf_105 (v3 : Int32) (v4 : Int32) (z0 : Int32) : Option (Int32) := (if z0 = 0 then (if v3 = (-1) then some v4 else some v3) else (if v4 = (-1) then some v3 else some v4))
noncomputable def fX0_nextRoomOf_100 (v3 : Int32) (v4 : Int32) : Option (Int32) := fX0_nextRoomOf_105 v3 v4 1
noncomputable def fX0_nextRoomOf_104 (v3 : Int32) (v4 : Int32) : Option (Int32) := fX0_nextRoomOf_105 v3 v4 0
noncomputable def fX0_nextRoomOf (C : Nat → Int32) (p0 : Int32) : Option (Int32) := ((fX0_number C p0 0).bind fun r_5 => (if r_5 = 0 then ((fX0_number C p0 6).bind fun r_29 => some r_29) else (if r_5 = 1 then ((fX0_number C p0 9).bind fun r_9 => ((fX0_number C p0 7).bind fun r_11 => ((fX0_stepAlongRow r_9 r_11).bind fun r_13 => ((fX0_number C p0 9).bind fun r_15 => ((fX0_number C p0 7).bind fun r_17 => ((fX0_stepAlongColumn r_15 r_17).bind fun r_19 => (if (C 1) = 1 then fX0_nextRoomOf_100 r_13 r_19 else (if (C 1) = 2 then ((fX0_isFree C r_13).bind fun r_23 => (if r_23 = 0 then ((fX0_isFree C r_19).bind fun r_26 => (if r_26 = 0 then fX0_nextRoomOf_104 r_13 r_19 else fX0_nextRoomOf_100 r_13 r_19)) else fX0_nextRoomOf_104 r_13 r_19)) else fX0_nextRoomOf_104 r_13 r_19)))))))) else some (-1))))
-- X0_blockerOf
noncomputable def fX0_blockerOf (C : Nat → Int32) (p0 : Int32) : Option (Int32) := ((fX0_nextRoomOf C p0).bind fun r_2 => ((fX0_takerOf C r_2).bind fun r_4 => some r_4))
-- X0_ringSizeOf
noncomputable def fX0_ringSizeOf_4 (C : Nat → Int32) (p0 : Int32) : Nat → Int32 → Int32 → Option (Int32)
  | 0, _, _ => none
  | n + 1, v2, v3 => (if 10 < v3 then some 0 else ((fX0_blockerOf C v2).bind fun r_3 => (if r_3 = (-1) then some 0 else (if r_3 = p0 then some v3 else fX0_ringSizeOf_4 C p0 n r_3 (v3 + 1)))))
noncomputable def fX0_ringSizeOf (C : Nat → Int32) (p0 : Int32) : Option (Int32) := fX0_ringSizeOf_4 C p0 5000 p0 1
-- X0_lowestInRing
noncomputable def fX0_lowestInRing_2 (C : Nat → Int32) : Nat → Int32 → Option (Int32)
  | 0, _ => none
  | n + 1, v1 => (if 10 ≤ v1 then some (-1) else ((fX0_ringSizeOf C v1).bind fun r_3 => (if r_3 ≤ 0 then fX0_lowestInRing_2 C n (v1 + 1) else some v1)))
noncomputable def fX0_lowestInRing (C : Nat → Int32) : Option (Int32) := fX0_lowestInRing_2 C 5000 0
-- X3_isLength
noncomputable def fX3_isLength (p0 : Int32) : Option (Int32) := (if p0 < 1 then some 0 else (if 9 < p0 then some 0 else some 1))
-- X0_isFull
noncomputable def fX0_isFull (C : Nat → Int32) : Option (Int32) := (if (C 0) < 10 then some 0 else some 1)
-- X1_isPlace
noncomputable def fX1_isPlace (p0 : Int32) : Option (Int32) := (if p0 < 0 then some 0 else (if 16 ≤ p0 then some 0 else some 1))
-- X0_writeTo
noncomputable def fX0_writeTo (C : Nat → Int32) (G : Nat → Int32) (p1 : Int32) : Option ((Nat → Int32)) := ((fX1_isPlace p1).bind fun r_2 => (if r_2 = 0 then some G else gz (cpok 0 (p1 * 256) 256 256 4096) (some (va_cpy C G 0 ((p1 * 256).toNatClampNeg) 256))))
-- X0_setNumber
noncomputable def fX0_setNumber (C : Nat → Int32) (p0 : Int32) (p1 : Int32) (p2 : Int32) : Option ((Nat → Int32)) := (if p0 < 0 then some C else (if 10 ≤ p0 then some C else (if p1 < 0 then some C else (if 18 ≤ p1 then some C else gd ((76 + (p0 * 18)) + p1) 256 (some (upd C (((76 + (p0 * 18)) + p1).toNatClampNeg) p2))))))
-- X0_addCaterpillar
noncomputable def fX0_addCaterpillar (C : Nat → Int32) (p0 : Int32) (p1 : Int32) (p2 : Int32) : Option (Int32 × (Nat → Int32)) := ((fX0_isFull C).bind fun r_2 => (if r_2 = 0 then ((fX3_isRoom p0).bind fun r_5 => (if r_5 = 0 then some (0, C) else ((fX3_isRoom p1).bind fun r_8 => (if r_8 = 0 then some (0, C) else ((fX3_isLength p2).bind fun r_11 => (if r_11 = 0 then some (0, C) else ((fX0_setNumber (upd C 0 ((C 0) + 1)) (C 0) 0 0).bind fun C_14 => ((fX0_setNumber C_14 (C 0) 1 0).bind fun C_16 => ((fX0_setNumber C_16 (C 0) 2 p2).bind fun C_18 => ((fX0_setNumber C_18 (C 0) 3 0).bind fun C_20 => ((fX0_setNumber C_20 (C 0) 4 0).bind fun C_22 => ((fX0_setNumber C_22 (C 0) 5 (-1)).bind fun C_24 => ((fX0_setNumber C_24 (C 0) 6 p0).bind fun C_26 => ((fX0_setNumber C_26 (C 0) 7 p1).bind fun C_28 => ((fX0_setNumber C_28 (C 0) 8 p2).bind fun C_30 => some (1, C_30)))))))))))))))) else some (0, C)))
-- X3_isTicks
noncomputable def fX3_isTicks (p0 : Int32) : Option (Int32) := (if p0 < 1 then some 0 else (if 60 < p0 then some 0 else some 1))
-- X0_isUnderWay
noncomputable def fX0_isUnderWay_18 : Option (Int32) := some 1
noncomputable def fX0_isUnderWay (C : Nat → Int32) (p0 : Int32) : Option (Int32) := ((fX0_isWhere C p0 0).bind fun r_2 => (if r_2 = 0 then ((fX0_isWhere C p0 1).bind fun r_5 => (if r_5 = 0 then some 0 else fX0_isUnderWay_18)) else fX0_isUnderWay_18))
-- X0_setTaker
noncomputable def fX0_setTaker (C : Nat → Int32) (p0 : Int32) (p1 : Int32) : Option ((Nat → Int32)) := (if p0 < 0 then some C else (if 36 ≤ p0 then some C else gd (40 + p0) 256 (some (upd C ((40 + p0).toNatClampNeg) p1))))
-- X0_drawIn
noncomputable def fX0_drawIn (C : Nat → Int32) (p0 : Int32) : Option ((Nat → Int32)) := ((fX0_number C p0 2).bind fun r_2 => (if r_2 ≤ 0 then ((fX0_number C p0 1).bind fun r_5 => ((fX0_number C p0 ((9 + r_5) - 1)).bind fun r_7 => ((fX0_setTaker C r_7 (-1)).bind fun C_9 => ((fX0_setNumber C_9 p0 1 (r_5 - 1)).bind fun C_11 => some C_11)))) else ((fX0_setNumber C p0 2 (r_2 - 1)).bind fun C_13 => some C_13)))
-- X0_eatOnePart
noncomputable def fX0_eatOnePart (C : Nat → Int32) (p0 : Int32) : Option ((Nat → Int32)) := ((fX0_number C p0 3).bind fun r_2 => ((fX0_setNumber C p0 3 (r_2 + 1)).bind fun C_4 => ((fX0_number C_4 p0 1).bind fun r_6 => (if r_6 = 0 then ((fX0_setNumber C_4 p0 0 2).bind fun C_9 => ((fX0_setNumber C_9 p0 5 (C_9 2)).bind fun C_11 => some C_11)) else some C_4))))
-- X0_putHead
noncomputable def fX0_putHead_10 (p0 : Int32) (p1 : Int32) : Nat → Int32 → Int32 → (Nat → Int32) → Option ((Nat → Int32))
  | 0, _, _, _ => none
  | n + 1, v3, v4, C => (if v4 ≤ 0 then ((fX0_setNumber C p0 9 p1).bind fun C_3 => ((fX0_setNumber C_3 p0 1 (v3 + 1)).bind fun C_5 => ((fX0_setNumber C_5 p0 0 1).bind fun C_7 => ((fX0_setTaker C_7 p1 p0).bind fun C_9 => some C_9)))) else ((fX0_number C p0 ((9 + v4) - 1)).bind fun r_11 => ((fX0_setNumber C p0 (9 + v4) r_11).bind fun C_13 => fX0_putHead_10 p0 p1 n v3 (v4 + (-1)) C_13)))
noncomputable def fX0_putHead (C : Nat → Int32) (p0 : Int32) (p1 : Int32) : Option ((Nat → Int32)) := ((fX0_number C p0 1).bind fun r_15 => fX0_putHead_10 p0 p1 5000 r_15 r_15 C)
-- X0_moveOne
noncomputable def fX0_moveOne_55 (p0 : Int32) (v2 : Int32) (v3 : Int32) (C : Nat → Int32) : Option (Int32 × (Nat → Int32)) := ((fX0_drawIn C p0).bind fun C_2 => (if v3 = 0 then ((fX0_putHead C_2 p0 v2).bind fun C_5 => some (1, C_5)) else ((fX0_eatOnePart C_2 p0).bind fun C_7 => some (1, C_7))))
noncomputable def fX0_moveOne_16 (p0 : Int32) (v2 : Int32) (z0 : Int32) (C : Nat → Int32) : Option (Int32 × (Nat → Int32)) := (if z0 = 0 then ((fX0_isFree C v2).bind fun r_10 => (if r_10 = 0 then ((fX0_number C p0 4).bind fun r_13 => ((fX0_setNumber C p0 4 (r_13 + 1)).bind fun C_15 => some (0, (upd C_15 3 ((C_15 3) + 1))))) else fX0_moveOne_55 p0 v2 z0 C)) else fX0_moveOne_55 p0 v2 z0 C)
noncomputable def fX0_moveOne (C : Nat → Int32) (p0 : Int32) : Option (Int32 × (Nat → Int32)) := ((fX0_nextRoomOf C p0).bind fun r_17 => (if r_17 = (-1) then fX0_moveOne_16 p0 r_17 1 C else fX0_moveOne_16 p0 r_17 0 C))
-- X0_moveAll
noncomputable def fX0_moveAll_38 (k14 : Int32 → Int32 → (Nat → Int32) → Option (Int32 × (Nat → Int32))) (v1 : Int32) (v2 : Int32) (C : Nat → Int32) : Option (Int32 × (Nat → Int32)) := k14 v1 (v2 + 1) C
noncomputable def fX0_moveAll_14 : Nat → Int32 → Int32 → (Nat → Int32) → Option (Int32 × (Nat → Int32))
  | 0, _, _, _ => none
  | n + 1, v1, v2, C => (if 10 ≤ v2 then gz (isz v1) (some (v1, C)) else ((fX0_isUnderWay C v2).bind fun r_4 => (if r_4 = 0 then fX0_moveAll_38 (fX0_moveAll_14 n) v1 v2 C else ((fX0_moveOne C v2).bind fun (r_7, C_8) => (if r_7 = 0 then fX0_moveAll_38 (fX0_moveAll_14 n) v1 v2 C_8 else fX0_moveAll_38 (fX0_moveAll_14 n) 1 v2 C_8)))))
noncomputable def fX0_moveAll (C : Nat → Int32) : Option (Int32 × (Nat → Int32)) := fX0_moveAll_14 5000 0 0 (upd C 2 ((C 2) + 1))
-- X0_runTicks
noncomputable def fX0_runTicks_11 (p0 : Int32) : Nat → Int32 → (Nat → Int32) → Option (Int32 × (Nat → Int32))
  | 0, _, _ => none
  | n + 1, v2, C => (if p0 ≤ v2 then some (1, C) else ((fX0_moveAll C).bind fun (r_3, C_4) => fX0_runTicks_11 p0 n (v2 + 1) C_4))
noncomputable def fX0_runTicks (C : Nat → Int32) (p0 : Int32) : Option (Int32 × (Nat → Int32)) := ((fX3_isTicks p0).bind fun r_6 => (if r_6 = 0 then some (0, C) else fX0_runTicks_11 p0 5000 0 C))
-- X3_isRule
noncomputable def fX3_isRule (p0 : Int32) : Option (Int32) := (if p0 < 0 then some 0 else (if 3 ≤ p0 then some 0 else some 1))
-- X0_setRule
noncomputable def fX0_setRule (C : Nat → Int32) (p0 : Int32) : Option (Int32 × (Nat → Int32)) := ((fX3_isRule p0).bind fun r_2 => (if r_2 = 0 then some (0, C) else some (1, (upd C 1 p0))))
-- X0_setShut
noncomputable def fX0_setShut_37 (z0 : Int32) (z1 : Int32) (C : Nat → Int32) : Option (Int32 × (Nat → Int32)) := gd z1 256 (some (1, (upd C (z1.toNatClampNeg) z0)))
noncomputable def fX0_setShut_21 (p0 : Int32) (p1 : Int32) (C : Nat → Int32) : Option (Int32 × (Nat → Int32)) := (if p1 = 0 then fX0_setShut_37 0 (4 + p0) C else fX0_setShut_37 1 (4 + p0) C)
noncomputable def fX0_setShut (C : Nat → Int32) (p0 : Int32) (p1 : Int32) : Option (Int32 × (Nat → Int32)) := ((fX3_isRoom p0).bind fun r_4 => (if r_4 = 0 then some (0, C) else (if p1 = 0 then fX0_setShut_21 p0 p1 C else ((fX0_isTaken C p0).bind fun r_8 => (if r_8 = 0 then fX0_setShut_21 p0 p1 C else some (0, C))))))
-- X0_pullOut
noncomputable def fX0_pullOut_33 (k12 : Int32 → (Nat → Int32) → Option (Int32 × (Nat → Int32))) (v2 : Int32) (C : Nat → Int32) : Option (Int32 × (Nat → Int32)) := k12 (v2 + 1) C
noncomputable def fX0_pullOut_12 (p0 : Int32) : Nat → Int32 → (Nat → Int32) → Option (Int32 × (Nat → Int32))
  | 0, _, _ => none
  | n + 1, v2, C => (if 36 ≤ v2 then ((fX0_setNumber C p0 0 3).bind fun C_3 => ((fX0_setNumber C_3 p0 1 0).bind fun C_5 => ((fX0_setNumber C_5 p0 2 0).bind fun C_7 => some (1, C_7)))) else ((fX0_takerOf C v2).bind fun r_9 => (if r_9 = p0 then ((fX0_setTaker C v2 (-1)).bind fun C_12 => fX0_pullOut_33 (fX0_pullOut_12 p0 n) v2 C_12) else fX0_pullOut_33 (fX0_pullOut_12 p0 n) v2 C)))
noncomputable def fX0_pullOut (C : Nat → Int32) (p0 : Int32) : Option (Int32 × (Nat → Int32)) := ((fX0_isUnderWay C p0).bind fun r_14 => (if r_14 = 0 then some (0, C) else fX0_pullOut_12 p0 5000 0 C))
-- X0_readFrom
noncomputable def fX0_readFrom (C : Nat → Int32) (G : Nat → Int32) (p1 : Int32) : Option ((Nat → Int32)) := ((fX1_isPlace p1).bind fun r_2 => (if r_2 = 0 then some C else gz (cpok (p1 * 256) 0 256 4096 256) (some (va_cpy G C ((p1 * 256).toNatClampNeg) 0 256))))
-- X0_copyFrom
noncomputable def fX0_copyFrom (C : Nat → Int32) (E : Nat → Int32) : Option ((Nat → Int32)) := gz (cpok 0 0 256 256 256) (some (va_cpy E C 0 0 256))
-- X0_isThrough
noncomputable def fX0_isThrough (C : Nat → Int32) : Option (Int32) := ((fX0_countWhere C 0).bind fun r_2 => (if r_2 = 0 then ((fX0_countWhere C 1).bind fun r_5 => (if r_5 = 0 then some 1 else some 0)) else some 0))
-- X0_goneSet
noncomputable def fX0_goneSet_25 (k4 : Int32 → Int32 → Option (Int32)) (v1 : Int32) (v2 : Int32) : Option (Int32) := k4 v1 (v2 + 1)
noncomputable def fX0_goneSet_4 (C : Nat → Int32) : Nat → Int32 → Int32 → Option (Int32)
  | 0, _, _ => none
  | n + 1, v1, v2 => (if 10 ≤ v2 then some v1 else ((fX0_isWhere C v2 2).bind fun r_3 => (if r_3 = 0 then fX0_goneSet_25 (fX0_goneSet_4 C n) v1 v2 else fX0_goneSet_25 (fX0_goneSet_4 C n) (v1 ||| (1 <<< (v2 &&& 31))) v2)))
noncomputable def fX0_goneSet (C : Nat → Int32) : Option (Int32) := fX0_goneSet_4 C 5000 0 0
abbrev rmX0_empty : Room := ({ frames := 1, cells := 0, slots := 0, locals := 0 })
set_option maxHeartbeats 4000000 in
set_option maxRecDepth 100000 in
theorem kX0_empty (l : Launch) (D : va_G) (cI cB cL : ClassId) (h0 : Nat) (h1 : Nat) (sz : Nat) (C : Nat → Int32) (C' : Nat → Int32) (hf : fX0_empty C = some C') : Met l yX0_empty wsX0_empty rmX0_empty (mPc D (tyK cI cB cL) [.ref h0] sz [(h0, .inr (0, [.ref h1])), (h1, .inl (cI, 256, .inl C))]) (mQv D [(h0, .inr (0, [.ref h1])), (h1, .inl (cI, 256, .inl C'))] (va_A [(h0, .inr (0, [.ref h1])), (h1, .inl (cI, 256, .inl C))] sz)) 0 0 (va_A [(h0, .inr (0, [.ref h1])), (h1, .inl (cI, 256, .inl C))] sz) := by
  refine m_of (Qf := mQv D [(h0, .inr (0, [.ref h1])), (h1, .inl (cI, 256, .inl C'))]) (cc := cX0_empty) (maxL := 2) (ret := none) (by decide) rfl (Nat.le_of_ble_eq_true rfl) ?_
  intro p e s m args below meth c A ls hsz hx hb hr hml hown hts hlocks hP hK hD hS hA hE hin hl Q hQ
  subst hsz
  have hl : lv_has ls 2 [(0, .ref h0)] := hl
  have hown : s.vm.findClass RX0 = some m.cls := hown
  have iX0 : ∀ w ∈ u_ws RX0 TX0 1, w ∈ wsX0_empty := by decide +kernel
  have hl0 := hl
  have g25 : ∀ (k2 : Int32 → (Nat → Int32) → Option ((Nat → Int32))) (hk2 : ∀ (v1 : Int32) (C : Nat → Int32) (H : Heap) (locs : List Loc) (ls : Array Slot), k2 v1 C = some C' → va_P D vwCl [(h0, .inr (0, [.ref h1])), (h1, .inl (cI, 256, .inl C))] H → va_D A [(h0, .inr (0, [.ref h1])), (h1, .inl (cI, 256, .inl C))] → va_S A s.heap H locs → lv_has ls 2 [(0, .ref h0), (1, .int v1)] → W p l e rmX0_empty s m args below meth c H locs 0 0 Q (F0 m 2 ls [])) (v1 : Int32) (z0 : Int32) (z1 : Int32) (C : Nat → Int32) (H : Heap) (locs : List Loc) (ls : Array Slot), fX0_empty_25 k2 v1 z0 z1 C = some C' → va_P D vwCl [(h0, .inr (0, [.ref h1])), (h1, .inl (cI, 256, .inl C))] H → va_D A [(h0, .inr (0, [.ref h1])), (h1, .inl (cI, 256, .inl C))] → va_S A s.heap H locs → lv_has ls 2 [(0, .ref h0), (1, .int v1)] → W p l e rmX0_empty s m args below meth c H locs 0 0 Q (F0 m 25 ls [.int z0, .int z1, .ref h1]) := by
    intro k2 hk2 v1 z0 z1 C H locs ls hf hP hD hS hl
    unfold fX0_empty_25 at hf
    obtain ⟨i_4, hf⟩ := gd_some hf
    refine x_iast hx hb hK hP hD hS 1 0 rfl rfl i_4 _ rfl [(h0, .inr (0, [.ref h1])), (h1, .inl (cI, 256, .inl (upd C (z1.toNatClampNeg) z0)))] rfl dX0_empty_25 (fun H locs hP hD hS => ?_)
    refine lv_iinc (v := (v1 + 1)) (lv' := [(1, .int (v1 + 1)), (0, .ref h0)]) hx hb dX0_empty_26 hl (k := 1) rfl rfl (by decide) rfl (fun ls hl => ?_)
    refine lv_goto (tgt := 2) hx hb dX0_empty_29 (by decide) ?_
    exact hk2 (v1 + 1) (upd C (z1.toNatClampNeg) z0) _ _ _ hf hP hD hS (lv_sub hl [1, 0] rfl)
  have g2 : ∀ (n : Nat) (v1 : Int32) (C : Nat → Int32) (H : Heap) (locs : List Loc) (ls : Array Slot), fX0_empty_2 n v1 C = some C' → va_P D vwCl [(h0, .inr (0, [.ref h1])), (h1, .inl (cI, 256, .inl C))] H → va_D A [(h0, .inr (0, [.ref h1])), (h1, .inl (cI, 256, .inl C))] → va_S A s.heap H locs → lv_has ls 2 [(0, .ref h0), (1, .int v1)] → W p l e rmX0_empty s m args below meth c H locs 0 0 Q (F0 m 2 ls []) := by
    intro  n
    induction n with
    | zero =>
      intro v1 C H locs ls hf
      exact absurd hf (by rw [fX0_empty_2]; simp)
    | succ n ih =>
      intro v1 C H locs ls hf hP hD hS hl
      rw [fX0_empty_2] at hf
      refine lv_iload_n hx hb dX0_empty_2 rfl (lv_at hl 1 rfl) ?_
      refine lv_sipush (v := 256) hx hb dX0_empty_3 (by decide) ?_
      refine lv_icmp_ge (tgt := 32) hx hb dX0_empty_6 (by decide) (fun c_5 => ?_) (fun c_5 => ?_)
      · have hf := br_pos c_5 hf
        cases hf
        exact rt_v hQ hx hb hr hlocks hP hD hS dX0_empty_32
      · have hf := br_neg c_5 hf
        refine lv_aload_n hx hb dX0_empty_9 rfl (lv_at hl 0 rfl) ?_
        refine va_get (D := D) (ci := 0) (v := .ref h1) (C := RX0) (T := TX0) (N := 1) hx hb hts iX0 hown hK hP 0 rfl rfl 0 (by decide) (hts (.fieldLink RX0 9 "LongCaterpillars$House" "cells" "[I") (List.mem_of_getElem? (i := 1) rfl)) (fun _ h9 => h9) rfl dX0_empty_10 ?_
        refine lv_iload_n hx hb dX0_empty_13 rfl (lv_at hl 1 rfl) ?_
        refine lv_iload_n hx hb dX0_empty_14 rfl (lv_at hl 1 rfl) ?_
        refine lv_bipush (v := 40) hx hb dX0_empty_15 (by decide) ?_
        refine lv_icmp_ge (tgt := 24) hx hb dX0_empty_17 (by decide) (fun c_6 => ?_) (fun c_6 => ?_)
        · have hf := br_pos c_6 hf
          refine lv_iconst (v := (-1)) hx hb dX0_empty_24 (by decide) ?_
          exact g25  (fX0_empty_2 n) ih v1 (-1) v1 C _ _ _ hf hP hD hS (lv_sub hl [0, 1] rfl)
        · have hf := br_neg c_6 hf
          refine lv_iconst (v := 0) hx hb dX0_empty_20 (by decide) ?_
          refine lv_goto (tgt := 25) hx hb dX0_empty_21 (by decide) ?_
          exact g25  (fX0_empty_2 n) ih v1 0 v1 C _ _ _ hf hP hD hS (lv_sub hl [0, 1] rfl)
  unfold fX0_empty at hf
  refine lv_iconst (v := 0) hx hb dX0_empty_0 (by decide) ?_
  refine lv_istore_n (lv' := [(1, .int 0), (0, .ref h0)]) hx hb dX0_empty_1 rfl hl (by decide) rfl (fun ls hl => ?_)
  exact g2  5000 0 C _ _ _ hf hP hD hS (lv_sub hl [1, 0] rfl)
abbrev rmX0_count : Room := ({ frames := 1, cells := 0, slots := 0, locals := 0 })
set_option maxHeartbeats 4000000 in
set_option maxRecDepth 100000 in
theorem kX0_count (l : Launch) (D : va_G) (cI cB cL : ClassId) (h0 : Nat) (h1 : Nat) (sz : Nat) (C : Nat → Int32) (w : Int32) (hf : fX0_count C = some w) : Met l yX0_count wsX0_count rmX0_count (mPc D (tyK cI cB cL) [.ref h0] sz [(h0, .inr (0, [.ref h1])), (h1, .inl (cI, 256, .inl C))]) (mQi D w [(h0, .inr (0, [.ref h1])), (h1, .inl (cI, 256, .inl C))] (va_A [(h0, .inr (0, [.ref h1])), (h1, .inl (cI, 256, .inl C))] sz)) 0 0 (va_A [(h0, .inr (0, [.ref h1])), (h1, .inl (cI, 256, .inl C))] sz) := by
  refine m_of (Qf := mQi D w [(h0, .inr (0, [.ref h1])), (h1, .inl (cI, 256, .inl C))]) (cc := cX0_count) (maxL := 1) (ret := (some .int)) (by decide) rfl (Nat.le_of_ble_eq_true rfl) ?_
  intro p e s m args below meth c A ls hsz hx hb hr hml hown hts hlocks hP hK hD hS hA hE hin hl Q hQ
  subst hsz
  have hl : lv_has ls 1 [(0, .ref h0)] := hl
  have hown : s.vm.findClass RX0 = some m.cls := hown
  have iX0 : ∀ w ∈ u_ws RX0 TX0 1, w ∈ wsX0_count := by decide +kernel
  unfold fX0_count at hf
  refine lv_aload_n hx hb dX0_count_0 rfl (lv_at hl 0 rfl) ?_
  refine va_get (D := D) (ci := 0) (v := .ref h1) (C := RX0) (T := TX0) (N := 1) hx hb hts iX0 hown hK hP 0 rfl rfl 0 (by decide) (hts (.fieldLink RX0 9 "LongCaterpillars$House" "cells" "[I") (List.mem_of_getElem? (i := 1) rfl)) (fun _ h9 => h9) rfl dX0_count_1 ?_
  refine lv_iconst (v := 0) hx hb dX0_count_4 (by decide) ?_
  refine x_iald hx hb hK hP 1 0 rfl rfl (vl rfl) 0 rfl dX0_count_5 ?_
  cases hf
  exact rt_i hQ hx hb hr hlocks hP hD hS dX0_count_6
abbrev rmX0_number : Room := ({ frames := 1, cells := 0, slots := 0, locals := 0 })
set_option maxHeartbeats 4000000 in
set_option maxRecDepth 100000 in
theorem kX0_number (l : Launch) (D : va_G) (cI cB cL : ClassId) (h0 : Nat) (h1 : Nat) (sz : Nat) (C : Nat → Int32) (p0 : Int32) (p1 : Int32) (w : Int32) (hf : fX0_number C p0 p1 = some w) : Met l yX0_number wsX0_number rmX0_number (mPc D (tyK cI cB cL) [.ref h0, .int p0, .int p1] sz [(h0, .inr (0, [.ref h1])), (h1, .inl (cI, 256, .inl C))]) (mQi D w [(h0, .inr (0, [.ref h1])), (h1, .inl (cI, 256, .inl C))] (va_A [(h0, .inr (0, [.ref h1])), (h1, .inl (cI, 256, .inl C))] sz)) 0 0 (va_A [(h0, .inr (0, [.ref h1])), (h1, .inl (cI, 256, .inl C))] sz) := by
  refine m_of (Qf := mQi D w [(h0, .inr (0, [.ref h1])), (h1, .inl (cI, 256, .inl C))]) (cc := cX0_number) (maxL := 3) (ret := (some .int)) (by decide) rfl (Nat.le_of_ble_eq_true rfl) ?_
  intro p e s m args below meth c A ls hsz hx hb hr hml hown hts hlocks hP hK hD hS hA hE hin hl Q hQ
  subst hsz
  have hl : lv_has ls 3 [(0, .ref h0), (1, .int p0), (2, .int p1)] := hl
  have hown : s.vm.findClass RX0 = some m.cls := hown
  have iX0 : ∀ w ∈ u_ws RX0 TX0 1, w ∈ wsX0_number := by decide +kernel
  unfold fX0_number at hf
  refine lv_iload_n hx hb dX0_number_0 rfl (lv_at hl 1 rfl) ?_
  refine lv_if_lt (tgt := 20) hx hb dX0_number_1 (by decide) (fun c_1 => ?_) (fun c_1 => ?_)
  · have hf := br_pos c_1 hf
    refine lv_iconst (v := (-1)) hx hb dX0_number_20 (by decide) ?_
    cases hf
    exact rt_i hQ hx hb hr hlocks hP hD hS dX0_number_21
  · have hf := br_neg c_1 hf
    refine lv_iload_n hx hb dX0_number_4 rfl (lv_at hl 1 rfl) ?_
    refine lv_bipush (v := 10) hx hb dX0_number_5 (by decide) ?_
    refine lv_icmp_ge (tgt := 20) hx hb dX0_number_7 (by decide) (fun c_2 => ?_) (fun c_2 => ?_)
    · have hf := br_pos c_2 hf
      refine lv_iconst (v := (-1)) hx hb dX0_number_20 (by decide) ?_
      cases hf
      exact rt_i hQ hx hb hr hlocks hP hD hS dX0_number_21
    · have hf := br_neg c_2 hf
      refine lv_iload_n hx hb dX0_number_10 rfl (lv_at hl 2 rfl) ?_
      refine lv_if_lt (tgt := 20) hx hb dX0_number_11 (by decide) (fun c_3 => ?_) (fun c_3 => ?_)
      · have hf := br_pos c_3 hf
        refine lv_iconst (v := (-1)) hx hb dX0_number_20 (by decide) ?_
        cases hf
        exact rt_i hQ hx hb hr hlocks hP hD hS dX0_number_21
      · have hf := br_neg c_3 hf
        refine lv_iload_n hx hb dX0_number_14 rfl (lv_at hl 2 rfl) ?_
        refine lv_bipush (v := 18) hx hb dX0_number_15 (by decide) ?_
        refine lv_icmp_lt (tgt := 22) hx hb dX0_number_17 (by decide) (fun c_4 => ?_) (fun c_4 => ?_)
        · have hf := br_pos c_4 hf
          refine lv_aload_n hx hb dX0_number_22 rfl (lv_at hl 0 rfl) ?_
          refine va_get (D := D) (ci := 0) (v := .ref h1) (C := RX0) (T := TX0) (N := 1) hx hb hts iX0 hown hK hP 0 rfl rfl 0 (by decide) (hts (.fieldLink RX0 9 "LongCaterpillars$House" "cells" "[I") (List.mem_of_getElem? (i := 1) rfl)) (fun _ h9 => h9) rfl dX0_number_23 ?_
          refine lv_bipush (v := 76) hx hb dX0_number_26 (by decide) ?_
          refine lv_iload_n hx hb dX0_number_28 rfl (lv_at hl 1 rfl) ?_
          refine lv_bipush (v := 18) hx hb dX0_number_29 (by decide) ?_
          refine lv_imul hx hb dX0_number_31 ?_
          refine lv_iadd hx hb dX0_number_32 ?_
          refine lv_iload_n hx hb dX0_number_33 rfl (lv_at hl 2 rfl) ?_
          refine lv_iadd hx hb dX0_number_34 ?_
          obtain ⟨i_5, hf⟩ := gd_some hf
          refine x_iald hx hb hK hP 1 0 rfl rfl i_5 _ rfl dX0_number_35 ?_
          cases hf
          exact rt_i hQ hx hb hr hlocks hP hD hS dX0_number_36
        · have hf := br_neg c_4 hf
          refine lv_iconst (v := (-1)) hx hb dX0_number_20 (by decide) ?_
          cases hf
          exact rt_i hQ hx hb hr hlocks hP hD hS dX0_number_21
abbrev rmX0_isWhere : Room := ({ frames := 2, cells := 0, slots := 0, locals := 22 })
set_option maxHeartbeats 4000000 in
set_option maxRecDepth 100000 in
theorem kX0_isWhere (l : Launch) (D : va_G) (cI cB cL : ClassId) (h0 : Nat) (h1 : Nat) (sz : Nat) (C : Nat → Int32) (p0 : Int32) (p1 : Int32) (w : Int32) (hf : fX0_isWhere C p0 p1 = some w) : Met l yX0_isWhere wsX0_isWhere rmX0_isWhere (mPc D (tyK cI cB cL) [.ref h0, .int p0, .int p1] sz [(h0, .inr (0, [.ref h1])), (h1, .inl (cI, 256, .inl C))]) (mQi D w [(h0, .inr (0, [.ref h1])), (h1, .inl (cI, 256, .inl C))] (va_A [(h0, .inr (0, [.ref h1])), (h1, .inl (cI, 256, .inl C))] sz)) 0 0 (va_A [(h0, .inr (0, [.ref h1])), (h1, .inl (cI, 256, .inl C))] sz) := by
  refine m_of (Qf := mQi D w [(h0, .inr (0, [.ref h1])), (h1, .inl (cI, 256, .inl C))]) (cc := cX0_isWhere) (maxL := 3) (ret := (some .boolean)) (by decide) rfl (Nat.le_of_ble_eq_true rfl) ?_
  intro p e s m args below meth c A ls hsz hx hb hr hml hown hts hlocks hP hK hD hS hA hE hin hl Q hQ
  subst hsz
  have hl : lv_has ls 3 [(0, .ref h0), (1, .int p0), (2, .int p1)] := hl
  have hown : s.vm.findClass RX0 = some m.cls := hown
  unfold fX0_isWhere at hf
  refine lv_aload_n hx hb dX0_isWhere_0 rfl (lv_at hl 0 rfl) ?_
  refine lv_iload_n hx hb dX0_isWhere_1 rfl (lv_at hl 1 rfl) ?_
  refine lv_iconst (v := 0) hx hb dX0_isWhere_2 (by decide) ?_
  obtain ⟨q, h_1, hf⟩ := bd_some hf
  obtain ⟨r_2, rfl⟩ : ∃ z, z = q := ⟨_, rfl⟩
  try dsimp only at hf
  refine cl_i (ws := [(h0, .inr (0, [.ref h1])), (h1, .inl (cI, 256, .inl C))]) (wc := [(h0, .inr (0, [.ref h1])), (h1, .inl (cI, 256, .inl C))]) (wr := []) (w1 := [(h0, .inr (0, [.ref h1])), (h1, .inl (cI, 256, .inl C))]) (ws' := [(h0, .inr (0, [.ref h1])), (h1, .inl (cI, 256, .inl C))]) hP hD hS hA [0, 1] [] [0, 1] rfl rfl (by decide) (by decide) rfl (by decide) (va_runV (As := [.int p0, .int 0]) (rest := []) ⟨hx, hb, hml, hown, hts⟩ (kX0_number l D cI cB cL h0 h1 _ C p0 0 r_2 h_1) (cwV 2 hts gX0_isWhere_X0_number rfl rfl rfl (by decide +kernel) ⟨Nat.le_of_ble_eq_true rfl, Nat.le_of_ble_eq_true rfl⟩) (pre_V (ci := 0) (q0 := 0) (T := TX0) (N := 1) hK hE hP hD hS hA [0, 1] rfl (by decide) rfl rfl) rfl rfl hl.1 rfl (lv_room (Nat.le_of_ble_eq_true rfl)) dX0_isWhere_3 ⟨Nat.le_of_ble_eq_true rfl, Nat.le_of_ble_eq_true rfl⟩) (fun H locs hP hD hS => ?_)
  refine lv_iload_n hx hb dX0_isWhere_6 rfl (lv_at hl 2 rfl) ?_
  refine lv_icmp_ne (tgt := 14) hx hb dX0_isWhere_7 (by decide) (fun c_3 => ?_) (fun c_3 => ?_)
  · have hf := br_neg c_3 hf
    refine lv_iconst (v := 0) hx hb dX0_isWhere_14 (by decide) ?_
    cases hf
    exact rt_z hQ hx hb hr rfl hlocks hP hD hS dX0_isWhere_15
  · have hf := br_pos c_3 hf
    refine lv_iconst (v := 1) hx hb dX0_isWhere_10 (by decide) ?_
    refine lv_goto (tgt := 15) hx hb dX0_isWhere_11 (by decide) ?_
    cases hf
    exact rt_z hQ hx hb hr rfl hlocks hP hD hS dX0_isWhere_15
abbrev rmX0_countWhere : Room := ({ frames := 3, cells := 0, slots := 0, locals := 44 })
set_option maxHeartbeats 4000000 in
set_option maxRecDepth 100000 in
theorem kX0_countWhere (l : Launch) (D : va_G) (cI cB cL : ClassId) (h0 : Nat) (h1 : Nat) (sz : Nat) (C : Nat → Int32) (p0 : Int32) (w : Int32) (hf : fX0_countWhere C p0 = some w) : Met l yX0_countWhere wsX0_countWhere rmX0_countWhere (mPc D (tyK cI cB cL) [.ref h0, .int p0] sz [(h0, .inr (0, [.ref h1])), (h1, .inl (cI, 256, .inl C))]) (mQi D w [(h0, .inr (0, [.ref h1])), (h1, .inl (cI, 256, .inl C))] (va_A [(h0, .inr (0, [.ref h1])), (h1, .inl (cI, 256, .inl C))] sz)) 0 0 (va_A [(h0, .inr (0, [.ref h1])), (h1, .inl (cI, 256, .inl C))] sz) := by
  refine m_of (Qf := mQi D w [(h0, .inr (0, [.ref h1])), (h1, .inl (cI, 256, .inl C))]) (cc := cX0_countWhere) (maxL := 4) (ret := (some .int)) (by decide) rfl (Nat.le_of_ble_eq_true rfl) ?_
  intro p e s m args below meth c A ls hsz hx hb hr hml hown hts hlocks hP hK hD hS hA hE hin hl Q hQ
  subst hsz
  have hl : lv_has ls 4 [(0, .ref h0), (1, .int p0)] := hl
  have hown : s.vm.findClass RX0 = some m.cls := hown
  have hl0 := hl
  have g22 : ∀ (k4 : Int32 → Int32 → Option (Int32)) (hk4 : ∀ (v2 : Int32) (v3 : Int32) (H : Heap) (locs : List Loc) (ls : Array Slot), k4 v2 v3 = some w → va_P D vwCl [(h0, .inr (0, [.ref h1])), (h1, .inl (cI, 256, .inl C))] H → va_D A [(h0, .inr (0, [.ref h1])), (h1, .inl (cI, 256, .inl C))] → va_S A s.heap H locs → lv_has ls 4 [(0, .ref h0), (1, .int p0), (2, .int v2), (3, .int v3)] → W p l e rmX0_countWhere s m args below meth c H locs 0 0 Q (F0 m 4 ls [])) (v2 : Int32) (v3 : Int32) (H : Heap) (locs : List Loc) (ls : Array Slot), fX0_countWhere_22 k4 v2 v3 = some w → va_P D vwCl [(h0, .inr (0, [.ref h1])), (h1, .inl (cI, 256, .inl C))] H → va_D A [(h0, .inr (0, [.ref h1])), (h1, .inl (cI, 256, .inl C))] → va_S A s.heap H locs → lv_has ls 4 [(0, .ref h0), (1, .int p0), (2, .int v2), (3, .int v3)] → W p l e rmX0_countWhere s m args below meth c H locs 0 0 Q (F0 m 22 ls []) := by
    intro k4 hk4 v2 v3 H locs ls hf hP hD hS hl
    unfold fX0_countWhere_22 at hf
    refine lv_iinc (v := (v3 + 1)) (lv' := [(3, .int (v3 + 1)), (0, .ref h0), (1, .int p0), (2, .int v2)]) hx hb dX0_countWhere_22 hl (k := 3) rfl rfl (by decide) rfl (fun ls hl => ?_)
    refine lv_goto (tgt := 4) hx hb dX0_countWhere_25 (by decide) ?_
    exact hk4 v2 (v3 + 1) _ _ _ hf hP hD hS (lv_sub hl [1, 2, 3, 0] rfl)
  have g4 : ∀ (n : Nat) (v2 : Int32) (v3 : Int32) (H : Heap) (locs : List Loc) (ls : Array Slot), fX0_countWhere_4 C p0 n v2 v3 = some w → va_P D vwCl [(h0, .inr (0, [.ref h1])), (h1, .inl (cI, 256, .inl C))] H → va_D A [(h0, .inr (0, [.ref h1])), (h1, .inl (cI, 256, .inl C))] → va_S A s.heap H locs → lv_has ls 4 [(0, .ref h0), (1, .int p0), (2, .int v2), (3, .int v3)] → W p l e rmX0_countWhere s m args below meth c H locs 0 0 Q (F0 m 4 ls []) := by
    intro  n
    induction n with
    | zero =>
      intro v2 v3 H locs ls hf
      exact absurd hf (by rw [fX0_countWhere_4]; simp)
    | succ n ih =>
      intro v2 v3 H locs ls hf hP hD hS hl
      rw [fX0_countWhere_4] at hf
      refine lv_iload_n hx hb dX0_countWhere_4 rfl (lv_at hl 3 rfl) ?_
      refine lv_bipush (v := 10) hx hb dX0_countWhere_5 (by decide) ?_
      refine lv_icmp_ge (tgt := 28) hx hb dX0_countWhere_7 (by decide) (fun c_1 => ?_) (fun c_1 => ?_)
      · have hf := br_pos c_1 hf
        refine lv_iload_n hx hb dX0_countWhere_28 rfl (lv_at hl 2 rfl) ?_
        cases hf
        exact rt_i hQ hx hb hr hlocks hP hD hS dX0_countWhere_29
      · have hf := br_neg c_1 hf
        refine lv_aload_n hx hb dX0_countWhere_10 rfl (lv_at hl 0 rfl) ?_
        refine lv_iload_n hx hb dX0_countWhere_11 rfl (lv_at hl 3 rfl) ?_
        refine lv_iload_n hx hb dX0_countWhere_12 rfl (lv_at hl 1 rfl) ?_
        obtain ⟨q, h_2, hf⟩ := bd_some hf
        obtain ⟨r_3, rfl⟩ : ∃ z, z = q := ⟨_, rfl⟩
        try dsimp only at hf
        refine cl_i (ws := [(h0, .inr (0, [.ref h1])), (h1, .inl (cI, 256, .inl C))]) (wc := [(h0, .inr (0, [.ref h1])), (h1, .inl (cI, 256, .inl C))]) (wr := []) (w1 := [(h0, .inr (0, [.ref h1])), (h1, .inl (cI, 256, .inl C))]) (ws' := [(h0, .inr (0, [.ref h1])), (h1, .inl (cI, 256, .inl C))]) hP hD hS hA [0, 1] [] [0, 1] rfl rfl (by decide) (by decide) rfl (by decide) (va_runV (As := [.int v3, .int p0]) (rest := []) ⟨hx, hb, hml, hown, hts⟩ (kX0_isWhere l D cI cB cL h0 h1 _ C v3 p0 r_3 h_2) (cwV 2 hts gX0_countWhere_X0_isWhere rfl rfl rfl (by decide +kernel) ⟨Nat.le_of_ble_eq_true rfl, Nat.le_of_ble_eq_true rfl⟩) (pre_V (ci := 0) (q0 := 0) (T := TX0) (N := 1) hK hE hP hD hS hA [0, 1] rfl (by decide) rfl rfl) rfl rfl hl.1 rfl (lv_room (Nat.le_of_ble_eq_true rfl)) dX0_countWhere_13 ⟨Nat.le_of_ble_eq_true rfl, Nat.le_of_ble_eq_true rfl⟩) (fun H locs hP hD hS => ?_)
        refine lv_if_eq (tgt := 22) hx hb dX0_countWhere_16 (by decide) (fun c_4 => ?_) (fun c_4 => ?_)
        · have hf := br_pos c_4 hf
          exact g22  (fX0_countWhere_4 C p0 n) ih v2 v3 _ _ _ hf hP hD hS (lv_sub hl [0, 1, 2, 3] rfl)
        · have hf := br_neg c_4 hf
          refine lv_iinc (v := (v2 + 1)) (lv' := [(2, .int (v2 + 1)), (0, .ref h0), (1, .int p0), (3, .int v3)]) hx hb dX0_countWhere_19 hl (k := 2) rfl rfl (by decide) rfl (fun ls hl => ?_)
          exact g22  (fX0_countWhere_4 C p0 n) ih (v2 + 1) v3 _ _ _ hf hP hD hS (lv_sub hl [1, 2, 0, 3] rfl)
  unfold fX0_countWhere at hf
  refine lv_iconst (v := 0) hx hb dX0_countWhere_0 (by decide) ?_
  refine lv_istore_n (lv' := [(2, .int 0), (0, .ref h0), (1, .int p0)]) hx hb dX0_countWhere_1 rfl hl (by decide) rfl (fun ls hl => ?_)
  refine lv_iconst (v := 0) hx hb dX0_countWhere_2 (by decide) ?_
  refine lv_istore_n (lv' := [(3, .int 0), (2, .int 0), (0, .ref h0), (1, .int p0)]) hx hb dX0_countWhere_3 rfl hl (by decide) rfl (fun ls hl => ?_)
  exact g4  5000 0 0 _ _ _ hf hP hD hS (lv_sub hl [2, 3, 1, 0] rfl)
abbrev rmX0_ticksSoFar : Room := ({ frames := 1, cells := 0, slots := 0, locals := 0 })
set_option maxHeartbeats 4000000 in
set_option maxRecDepth 100000 in
theorem kX0_ticksSoFar (l : Launch) (D : va_G) (cI cB cL : ClassId) (h0 : Nat) (h1 : Nat) (sz : Nat) (C : Nat → Int32) (w : Int32) (hf : fX0_ticksSoFar C = some w) : Met l yX0_ticksSoFar wsX0_ticksSoFar rmX0_ticksSoFar (mPc D (tyK cI cB cL) [.ref h0] sz [(h0, .inr (0, [.ref h1])), (h1, .inl (cI, 256, .inl C))]) (mQi D w [(h0, .inr (0, [.ref h1])), (h1, .inl (cI, 256, .inl C))] (va_A [(h0, .inr (0, [.ref h1])), (h1, .inl (cI, 256, .inl C))] sz)) 0 0 (va_A [(h0, .inr (0, [.ref h1])), (h1, .inl (cI, 256, .inl C))] sz) := by
  refine m_of (Qf := mQi D w [(h0, .inr (0, [.ref h1])), (h1, .inl (cI, 256, .inl C))]) (cc := cX0_ticksSoFar) (maxL := 1) (ret := (some .int)) (by decide) rfl (Nat.le_of_ble_eq_true rfl) ?_
  intro p e s m args below meth c A ls hsz hx hb hr hml hown hts hlocks hP hK hD hS hA hE hin hl Q hQ
  subst hsz
  have hl : lv_has ls 1 [(0, .ref h0)] := hl
  have hown : s.vm.findClass RX0 = some m.cls := hown
  have iX0 : ∀ w ∈ u_ws RX0 TX0 1, w ∈ wsX0_ticksSoFar := by decide +kernel
  unfold fX0_ticksSoFar at hf
  refine lv_aload_n hx hb dX0_ticksSoFar_0 rfl (lv_at hl 0 rfl) ?_
  refine va_get (D := D) (ci := 0) (v := .ref h1) (C := RX0) (T := TX0) (N := 1) hx hb hts iX0 hown hK hP 0 rfl rfl 0 (by decide) (hts (.fieldLink RX0 9 "LongCaterpillars$House" "cells" "[I") (List.mem_of_getElem? (i := 1) rfl)) (fun _ h9 => h9) rfl dX0_ticksSoFar_1 ?_
  refine lv_iconst (v := 2) hx hb dX0_ticksSoFar_4 (by decide) ?_
  refine x_iald hx hb hK hP 1 0 rfl rfl (vl rfl) 2 rfl dX0_ticksSoFar_5 ?_
  cases hf
  exact rt_i hQ hx hb hr hlocks hP hD hS dX0_ticksSoFar_6
abbrev rmX3_isRoom : Room := ({ frames := 1, cells := 0, slots := 0, locals := 0 })
set_option maxHeartbeats 4000000 in
set_option maxRecDepth 100000 in
theorem kX3_isRoom (l : Launch) (D : va_G) (cI cB cL : ClassId) (sz : Nat) (p0 : Int32) (w : Int32) (hf : fX3_isRoom p0 = some w) : Met l yX3_isRoom wsX3_isRoom rmX3_isRoom (mPc D (tyK cI cB cL) [.int p0] sz []) (mQi D w [] (va_A [] sz)) 0 0 (va_A [] sz) := by
  refine m_of (Qf := mQi D w []) (cc := cX3_isRoom) (maxL := 1) (ret := (some .boolean)) (by decide) rfl (Nat.le_of_ble_eq_true rfl) ?_
  intro p e s m args below meth c A ls hsz hx hb hr hml hown hts hlocks hP hK hD hS hA hE hin hl Q hQ
  subst hsz
  have hl : lv_has ls 1 [(0, .int p0)] := hl
  have hown : s.vm.findClass RX3 = some m.cls := hown
  unfold fX3_isRoom at hf
  refine lv_iload_n hx hb dX3_isRoom_0 rfl (lv_at hl 0 rfl) ?_
  refine lv_if_lt (tgt := 14) hx hb dX3_isRoom_1 (by decide) (fun c_1 => ?_) (fun c_1 => ?_)
  · have hf := br_pos c_1 hf
    refine lv_iconst (v := 0) hx hb dX3_isRoom_14 (by decide) ?_
    cases hf
    exact rt_z hQ hx hb hr rfl hlocks hP hD hS dX3_isRoom_15
  · have hf := br_neg c_1 hf
    refine lv_iload_n hx hb dX3_isRoom_4 rfl (lv_at hl 0 rfl) ?_
    refine lv_bipush (v := 36) hx hb dX3_isRoom_5 (by decide) ?_
    refine lv_icmp_ge (tgt := 14) hx hb dX3_isRoom_7 (by decide) (fun c_2 => ?_) (fun c_2 => ?_)
    · have hf := br_pos c_2 hf
      refine lv_iconst (v := 0) hx hb dX3_isRoom_14 (by decide) ?_
      cases hf
      exact rt_z hQ hx hb hr rfl hlocks hP hD hS dX3_isRoom_15
    · have hf := br_neg c_2 hf
      refine lv_iconst (v := 1) hx hb dX3_isRoom_10 (by decide) ?_
      refine lv_goto (tgt := 15) hx hb dX3_isRoom_11 (by decide) ?_
      cases hf
      exact rt_z hQ hx hb hr rfl hlocks hP hD hS dX3_isRoom_15
abbrev rmX0_takerOf : Room := ({ frames := 2, cells := 0, slots := 0, locals := 20 })
set_option maxHeartbeats 4000000 in
set_option maxRecDepth 100000 in
theorem kX0_takerOf (l : Launch) (D : va_G) (cI cB cL : ClassId) (h0 : Nat) (h1 : Nat) (sz : Nat) (C : Nat → Int32) (p0 : Int32) (w : Int32) (hf : fX0_takerOf C p0 = some w) : Met l yX0_takerOf wsX0_takerOf rmX0_takerOf (mPc D (tyK cI cB cL) [.ref h0, .int p0] sz [(h0, .inr (0, [.ref h1])), (h1, .inl (cI, 256, .inl C))]) (mQi D w [(h0, .inr (0, [.ref h1])), (h1, .inl (cI, 256, .inl C))] (va_A [(h0, .inr (0, [.ref h1])), (h1, .inl (cI, 256, .inl C))] sz)) 0 0 (va_A [(h0, .inr (0, [.ref h1])), (h1, .inl (cI, 256, .inl C))] sz) := by
  refine m_of (Qf := mQi D w [(h0, .inr (0, [.ref h1])), (h1, .inl (cI, 256, .inl C))]) (cc := cX0_takerOf) (maxL := 2) (ret := (some .int)) (by decide) rfl (Nat.le_of_ble_eq_true rfl) ?_
  intro p e s m args below meth c A ls hsz hx hb hr hml hown hts hlocks hP hK hD hS hA hE hin hl Q hQ
  subst hsz
  have hl : lv_has ls 2 [(0, .ref h0), (1, .int p0)] := hl
  have hown : s.vm.findClass RX0 = some m.cls := hown
  have iX0 : ∀ w ∈ u_ws RX0 TX0 1, w ∈ wsX0_takerOf := by decide +kernel
  unfold fX0_takerOf at hf
  refine lv_iload_n hx hb dX0_takerOf_0 rfl (lv_at hl 1 rfl) ?_
  obtain ⟨q, h_1, hf⟩ := bd_some hf
  obtain ⟨r_2, rfl⟩ : ∃ z, z = q := ⟨_, rfl⟩
  try dsimp only at hf
  refine cl_i (ws := [(h0, .inr (0, [.ref h1])), (h1, .inl (cI, 256, .inl C))]) (wc := []) (wr := [(h0, .inr (0, [.ref h1])), (h1, .inl (cI, 256, .inl C))]) (w1 := []) (ws' := [(h0, .inr (0, [.ref h1])), (h1, .inl (cI, 256, .inl C))]) hP hD hS hA [] [0, 1] [0, 1] rfl rfl (by decide) (by decide) rfl (by decide) (va_runSN (As := [.int p0]) (rest := []) ⟨hx, hb, hml, hown, hts⟩ (kX3_isRoom l D cI cB cL _ p0 r_2 h_1) ⟨va_cnB 1 hts gX0_takerOf_X3_isRoom_n31 rfl rfl rfl hE.1.2.2.2.1 (hts (.initialized RX3) (List.mem_of_getElem? (i := 3) rfl)) (by decide +kernel) ⟨Nat.le_of_ble_eq_true rfl, Nat.le_of_ble_eq_true rfl⟩, hts (.static yX3_isRoom) (List.mem_of_getElem? (i := 2) rfl), trivial⟩ (pre_S hK hE hP hD hS hA [] rfl (by decide)) rfl rfl hl.1 rfl (lv_room (Nat.le_of_ble_eq_true rfl)) dX0_takerOf_1 ⟨Nat.le_of_ble_eq_true rfl, Nat.le_of_ble_eq_true rfl⟩) (fun H locs hP hD hS => ?_)
  refine lv_if_eq (tgt := 19) hx hb dX0_takerOf_4 (by decide) (fun c_3 => ?_) (fun c_3 => ?_)
  · have hf := br_pos c_3 hf
    refine lv_iconst (v := (-1)) hx hb dX0_takerOf_19 (by decide) ?_
    cases hf
    exact rt_i hQ hx hb hr hlocks hP hD hS dX0_takerOf_20
  · have hf := br_neg c_3 hf
    refine lv_aload_n hx hb dX0_takerOf_7 rfl (lv_at hl 0 rfl) ?_
    refine va_get (D := D) (ci := 0) (v := .ref h1) (C := RX0) (T := TX0) (N := 1) hx hb hts iX0 hown hK hP 0 rfl rfl 0 (by decide) (hts (.fieldLink RX0 9 "LongCaterpillars$House" "cells" "[I") (List.mem_of_getElem? (i := 1) rfl)) (fun _ h9 => h9) rfl dX0_takerOf_8 ?_
    refine lv_bipush (v := 40) hx hb dX0_takerOf_11 (by decide) ?_
    refine lv_iload_n hx hb dX0_takerOf_13 rfl (lv_at hl 1 rfl) ?_
    refine lv_iadd hx hb dX0_takerOf_14 ?_
    obtain ⟨i_4, hf⟩ := gd_some hf
    refine x_iald hx hb hK hP 1 0 rfl rfl i_4 _ rfl dX0_takerOf_15 ?_
    refine lv_goto (tgt := 20) hx hb dX0_takerOf_16 (by decide) ?_
    cases hf
    exact rt_i hQ hx hb hr hlocks hP hD hS dX0_takerOf_20
abbrev rmX0_isTaken : Room := ({ frames := 3, cells := 0, slots := 0, locals := 41 })
set_option maxHeartbeats 4000000 in
set_option maxRecDepth 100000 in
theorem kX0_isTaken (l : Launch) (D : va_G) (cI cB cL : ClassId) (h0 : Nat) (h1 : Nat) (sz : Nat) (C : Nat → Int32) (p0 : Int32) (w : Int32) (hf : fX0_isTaken C p0 = some w) : Met l yX0_isTaken wsX0_isTaken rmX0_isTaken (mPc D (tyK cI cB cL) [.ref h0, .int p0] sz [(h0, .inr (0, [.ref h1])), (h1, .inl (cI, 256, .inl C))]) (mQi D w [(h0, .inr (0, [.ref h1])), (h1, .inl (cI, 256, .inl C))] (va_A [(h0, .inr (0, [.ref h1])), (h1, .inl (cI, 256, .inl C))] sz)) 0 0 (va_A [(h0, .inr (0, [.ref h1])), (h1, .inl (cI, 256, .inl C))] sz) := by
  refine m_of (Qf := mQi D w [(h0, .inr (0, [.ref h1])), (h1, .inl (cI, 256, .inl C))]) (cc := cX0_isTaken) (maxL := 2) (ret := (some .boolean)) (by decide) rfl (Nat.le_of_ble_eq_true rfl) ?_
  intro p e s m args below meth c A ls hsz hx hb hr hml hown hts hlocks hP hK hD hS hA hE hin hl Q hQ
  subst hsz
  have hl : lv_has ls 2 [(0, .ref h0), (1, .int p0)] := hl
  have hown : s.vm.findClass RX0 = some m.cls := hown
  unfold fX0_isTaken at hf
  refine lv_aload_n hx hb dX0_isTaken_0 rfl (lv_at hl 0 rfl) ?_
  refine lv_iload_n hx hb dX0_isTaken_1 rfl (lv_at hl 1 rfl) ?_
  obtain ⟨q, h_1, hf⟩ := bd_some hf
  obtain ⟨r_2, rfl⟩ : ∃ z, z = q := ⟨_, rfl⟩
  try dsimp only at hf
  refine cl_i (ws := [(h0, .inr (0, [.ref h1])), (h1, .inl (cI, 256, .inl C))]) (wc := [(h0, .inr (0, [.ref h1])), (h1, .inl (cI, 256, .inl C))]) (wr := []) (w1 := [(h0, .inr (0, [.ref h1])), (h1, .inl (cI, 256, .inl C))]) (ws' := [(h0, .inr (0, [.ref h1])), (h1, .inl (cI, 256, .inl C))]) hP hD hS hA [0, 1] [] [0, 1] rfl rfl (by decide) (by decide) rfl (by decide) (va_runV (As := [.int p0]) (rest := []) ⟨hx, hb, hml, hown, hts⟩ (kX0_takerOf l D cI cB cL h0 h1 _ C p0 r_2 h_1) (cwV 1 hts gX0_isTaken_X0_takerOf rfl rfl rfl (by decide +kernel) ⟨Nat.le_of_ble_eq_true rfl, Nat.le_of_ble_eq_true rfl⟩) (pre_V (ci := 0) (q0 := 0) (T := TX0) (N := 1) hK hE hP hD hS hA [0, 1] rfl (by decide) rfl rfl) rfl rfl hl.1 rfl (lv_room (Nat.le_of_ble_eq_true rfl)) dX0_isTaken_2 ⟨Nat.le_of_ble_eq_true rfl, Nat.le_of_ble_eq_true rfl⟩) (fun H locs hP hD hS => ?_)
  refine lv_iconst (v := (-1)) hx hb dX0_isTaken_5 (by decide) ?_
  refine lv_icmp_eq (tgt := 13) hx hb dX0_isTaken_6 (by decide) (fun c_3 => ?_) (fun c_3 => ?_)
  · have hf := br_pos c_3 hf
    refine lv_iconst (v := 0) hx hb dX0_isTaken_13 (by decide) ?_
    cases hf
    exact rt_z hQ hx hb hr rfl hlocks hP hD hS dX0_isTaken_14
  · have hf := br_neg c_3 hf
    refine lv_iconst (v := 1) hx hb dX0_isTaken_9 (by decide) ?_
    refine lv_goto (tgt := 14) hx hb dX0_isTaken_10 (by decide) ?_
    cases hf
    exact rt_z hQ hx hb hr rfl hlocks hP hD hS dX0_isTaken_14
abbrev rmX0_takenRooms : Room := ({ frames := 4, cells := 0, slots := 0, locals := 62 })
set_option maxHeartbeats 4000000 in
set_option maxRecDepth 100000 in
theorem kX0_takenRooms (l : Launch) (D : va_G) (cI cB cL : ClassId) (h0 : Nat) (h1 : Nat) (sz : Nat) (C : Nat → Int32) (w : Int32) (hf : fX0_takenRooms C = some w) : Met l yX0_takenRooms wsX0_takenRooms rmX0_takenRooms (mPc D (tyK cI cB cL) [.ref h0] sz [(h0, .inr (0, [.ref h1])), (h1, .inl (cI, 256, .inl C))]) (mQi D w [(h0, .inr (0, [.ref h1])), (h1, .inl (cI, 256, .inl C))] (va_A [(h0, .inr (0, [.ref h1])), (h1, .inl (cI, 256, .inl C))] sz)) 0 0 (va_A [(h0, .inr (0, [.ref h1])), (h1, .inl (cI, 256, .inl C))] sz) := by
  refine m_of (Qf := mQi D w [(h0, .inr (0, [.ref h1])), (h1, .inl (cI, 256, .inl C))]) (cc := cX0_takenRooms) (maxL := 3) (ret := (some .int)) (by decide) rfl (Nat.le_of_ble_eq_true rfl) ?_
  intro p e s m args below meth c A ls hsz hx hb hr hml hown hts hlocks hP hK hD hS hA hE hin hl Q hQ
  subst hsz
  have hl : lv_has ls 3 [(0, .ref h0)] := hl
  have hown : s.vm.findClass RX0 = some m.cls := hown
  have hl0 := hl
  have g21 : ∀ (k4 : Int32 → Int32 → Option (Int32)) (hk4 : ∀ (v1 : Int32) (v2 : Int32) (H : Heap) (locs : List Loc) (ls : Array Slot), k4 v1 v2 = some w → va_P D vwCl [(h0, .inr (0, [.ref h1])), (h1, .inl (cI, 256, .inl C))] H → va_D A [(h0, .inr (0, [.ref h1])), (h1, .inl (cI, 256, .inl C))] → va_S A s.heap H locs → lv_has ls 3 [(0, .ref h0), (1, .int v1), (2, .int v2)] → W p l e rmX0_takenRooms s m args below meth c H locs 0 0 Q (F0 m 4 ls [])) (v1 : Int32) (v2 : Int32) (H : Heap) (locs : List Loc) (ls : Array Slot), fX0_takenRooms_21 k4 v1 v2 = some w → va_P D vwCl [(h0, .inr (0, [.ref h1])), (h1, .inl (cI, 256, .inl C))] H → va_D A [(h0, .inr (0, [.ref h1])), (h1, .inl (cI, 256, .inl C))] → va_S A s.heap H locs → lv_has ls 3 [(0, .ref h0), (1, .int v1), (2, .int v2)] → W p l e rmX0_takenRooms s m args below meth c H locs 0 0 Q (F0 m 21 ls []) := by
    intro k4 hk4 v1 v2 H locs ls hf hP hD hS hl
    unfold fX0_takenRooms_21 at hf
    refine lv_iinc (v := (v2 + 1)) (lv' := [(2, .int (v2 + 1)), (0, .ref h0), (1, .int v1)]) hx hb dX0_takenRooms_21 hl (k := 2) rfl rfl (by decide) rfl (fun ls hl => ?_)
    refine lv_goto (tgt := 4) hx hb dX0_takenRooms_24 (by decide) ?_
    exact hk4 v1 (v2 + 1) _ _ _ hf hP hD hS (lv_sub hl [1, 2, 0] rfl)
  have g4 : ∀ (n : Nat) (v1 : Int32) (v2 : Int32) (H : Heap) (locs : List Loc) (ls : Array Slot), fX0_takenRooms_4 C n v1 v2 = some w → va_P D vwCl [(h0, .inr (0, [.ref h1])), (h1, .inl (cI, 256, .inl C))] H → va_D A [(h0, .inr (0, [.ref h1])), (h1, .inl (cI, 256, .inl C))] → va_S A s.heap H locs → lv_has ls 3 [(0, .ref h0), (1, .int v1), (2, .int v2)] → W p l e rmX0_takenRooms s m args below meth c H locs 0 0 Q (F0 m 4 ls []) := by
    intro  n
    induction n with
    | zero =>
      intro v1 v2 H locs ls hf
      exact absurd hf (by rw [fX0_takenRooms_4]; simp)
    | succ n ih =>
      intro v1 v2 H locs ls hf hP hD hS hl
      rw [fX0_takenRooms_4] at hf
      refine lv_iload_n hx hb dX0_takenRooms_4 rfl (lv_at hl 2 rfl) ?_
      refine lv_bipush (v := 36) hx hb dX0_takenRooms_5 (by decide) ?_
      refine lv_icmp_ge (tgt := 27) hx hb dX0_takenRooms_7 (by decide) (fun c_1 => ?_) (fun c_1 => ?_)
      · have hf := br_pos c_1 hf
        refine lv_iload_n hx hb dX0_takenRooms_27 rfl (lv_at hl 1 rfl) ?_
        cases hf
        exact rt_i hQ hx hb hr hlocks hP hD hS dX0_takenRooms_28
      · have hf := br_neg c_1 hf
        refine lv_aload_n hx hb dX0_takenRooms_10 rfl (lv_at hl 0 rfl) ?_
        refine lv_iload_n hx hb dX0_takenRooms_11 rfl (lv_at hl 2 rfl) ?_
        obtain ⟨q, h_2, hf⟩ := bd_some hf
        obtain ⟨r_3, rfl⟩ : ∃ z, z = q := ⟨_, rfl⟩
        try dsimp only at hf
        refine cl_i (ws := [(h0, .inr (0, [.ref h1])), (h1, .inl (cI, 256, .inl C))]) (wc := [(h0, .inr (0, [.ref h1])), (h1, .inl (cI, 256, .inl C))]) (wr := []) (w1 := [(h0, .inr (0, [.ref h1])), (h1, .inl (cI, 256, .inl C))]) (ws' := [(h0, .inr (0, [.ref h1])), (h1, .inl (cI, 256, .inl C))]) hP hD hS hA [0, 1] [] [0, 1] rfl rfl (by decide) (by decide) rfl (by decide) (va_runV (As := [.int v2]) (rest := []) ⟨hx, hb, hml, hown, hts⟩ (kX0_isTaken l D cI cB cL h0 h1 _ C v2 r_3 h_2) (cwV 1 hts gX0_takenRooms_X0_isTaken rfl rfl rfl (by decide +kernel) ⟨Nat.le_of_ble_eq_true rfl, Nat.le_of_ble_eq_true rfl⟩) (pre_V (ci := 0) (q0 := 0) (T := TX0) (N := 1) hK hE hP hD hS hA [0, 1] rfl (by decide) rfl rfl) rfl rfl hl.1 rfl (lv_room (Nat.le_of_ble_eq_true rfl)) dX0_takenRooms_12 ⟨Nat.le_of_ble_eq_true rfl, Nat.le_of_ble_eq_true rfl⟩) (fun H locs hP hD hS => ?_)
        refine lv_if_eq (tgt := 21) hx hb dX0_takenRooms_15 (by decide) (fun c_4 => ?_) (fun c_4 => ?_)
        · have hf := br_pos c_4 hf
          exact g21  (fX0_takenRooms_4 C n) ih v1 v2 _ _ _ hf hP hD hS (lv_sub hl [0, 1, 2] rfl)
        · have hf := br_neg c_4 hf
          refine lv_iinc (v := (v1 + 1)) (lv' := [(1, .int (v1 + 1)), (0, .ref h0), (2, .int v2)]) hx hb dX0_takenRooms_18 hl (k := 1) rfl rfl (by decide) rfl (fun ls hl => ?_)
          exact g21  (fX0_takenRooms_4 C n) ih (v1 + 1) v2 _ _ _ hf hP hD hS (lv_sub hl [1, 0, 2] rfl)
  unfold fX0_takenRooms at hf
  refine lv_iconst (v := 0) hx hb dX0_takenRooms_0 (by decide) ?_
  refine lv_istore_n (lv' := [(1, .int 0), (0, .ref h0)]) hx hb dX0_takenRooms_1 rfl hl (by decide) rfl (fun ls hl => ?_)
  refine lv_iconst (v := 0) hx hb dX0_takenRooms_2 (by decide) ?_
  refine lv_istore_n (lv' := [(2, .int 0), (1, .int 0), (0, .ref h0)]) hx hb dX0_takenRooms_3 rfl hl (by decide) rfl (fun ls hl => ?_)
  exact g4  5000 0 0 _ _ _ hf hP hD hS (lv_sub hl [2, 1, 0] rfl)
abbrev rmX0_isShut : Room := ({ frames := 2, cells := 0, slots := 0, locals := 20 })
set_option maxHeartbeats 4000000 in
set_option maxRecDepth 100000 in
theorem kX0_isShut (l : Launch) (D : va_G) (cI cB cL : ClassId) (h0 : Nat) (h1 : Nat) (sz : Nat) (C : Nat → Int32) (p0 : Int32) (w : Int32) (hf : fX0_isShut C p0 = some w) : Met l yX0_isShut wsX0_isShut rmX0_isShut (mPc D (tyK cI cB cL) [.ref h0, .int p0] sz [(h0, .inr (0, [.ref h1])), (h1, .inl (cI, 256, .inl C))]) (mQi D w [(h0, .inr (0, [.ref h1])), (h1, .inl (cI, 256, .inl C))] (va_A [(h0, .inr (0, [.ref h1])), (h1, .inl (cI, 256, .inl C))] sz)) 0 0 (va_A [(h0, .inr (0, [.ref h1])), (h1, .inl (cI, 256, .inl C))] sz) := by
  refine m_of (Qf := mQi D w [(h0, .inr (0, [.ref h1])), (h1, .inl (cI, 256, .inl C))]) (cc := cX0_isShut) (maxL := 2) (ret := (some .boolean)) (by decide) rfl (Nat.le_of_ble_eq_true rfl) ?_
  intro p e s m args below meth c A ls hsz hx hb hr hml hown hts hlocks hP hK hD hS hA hE hin hl Q hQ
  subst hsz
  have hl : lv_has ls 2 [(0, .ref h0), (1, .int p0)] := hl
  have hown : s.vm.findClass RX0 = some m.cls := hown
  have iX0 : ∀ w ∈ u_ws RX0 TX0 1, w ∈ wsX0_isShut := by decide +kernel
  unfold fX0_isShut at hf
  refine lv_iload_n hx hb dX0_isShut_0 rfl (lv_at hl 1 rfl) ?_
  obtain ⟨q, h_1, hf⟩ := bd_some hf
  obtain ⟨r_2, rfl⟩ : ∃ z, z = q := ⟨_, rfl⟩
  try dsimp only at hf
  refine cl_i (ws := [(h0, .inr (0, [.ref h1])), (h1, .inl (cI, 256, .inl C))]) (wc := []) (wr := [(h0, .inr (0, [.ref h1])), (h1, .inl (cI, 256, .inl C))]) (w1 := []) (ws' := [(h0, .inr (0, [.ref h1])), (h1, .inl (cI, 256, .inl C))]) hP hD hS hA [] [0, 1] [0, 1] rfl rfl (by decide) (by decide) rfl (by decide) (va_runSN (As := [.int p0]) (rest := []) ⟨hx, hb, hml, hown, hts⟩ (kX3_isRoom l D cI cB cL _ p0 r_2 h_1) ⟨va_cnB 1 hts gX0_isShut_X3_isRoom_n31 rfl rfl rfl hE.1.2.2.2.1 (hts (.initialized RX3) (List.mem_of_getElem? (i := 3) rfl)) (by decide +kernel) ⟨Nat.le_of_ble_eq_true rfl, Nat.le_of_ble_eq_true rfl⟩, hts (.static yX3_isRoom) (List.mem_of_getElem? (i := 2) rfl), trivial⟩ (pre_S hK hE hP hD hS hA [] rfl (by decide)) rfl rfl hl.1 rfl (lv_room (Nat.le_of_ble_eq_true rfl)) dX0_isShut_1 ⟨Nat.le_of_ble_eq_true rfl, Nat.le_of_ble_eq_true rfl⟩) (fun H locs hP hD hS => ?_)
  refine lv_if_eq (tgt := 22) hx hb dX0_isShut_4 (by decide) (fun c_3 => ?_) (fun c_3 => ?_)
  · have hf := br_pos c_3 hf
    refine lv_iconst (v := 0) hx hb dX0_isShut_22 (by decide) ?_
    cases hf
    exact rt_z hQ hx hb hr rfl hlocks hP hD hS dX0_isShut_23
  · have hf := br_neg c_3 hf
    refine lv_aload_n hx hb dX0_isShut_7 rfl (lv_at hl 0 rfl) ?_
    refine va_get (D := D) (ci := 0) (v := .ref h1) (C := RX0) (T := TX0) (N := 1) hx hb hts iX0 hown hK hP 0 rfl rfl 0 (by decide) (hts (.fieldLink RX0 9 "LongCaterpillars$House" "cells" "[I") (List.mem_of_getElem? (i := 1) rfl)) (fun _ h9 => h9) rfl dX0_isShut_8 ?_
    refine lv_iconst (v := 4) hx hb dX0_isShut_11 (by decide) ?_
    refine lv_iload_n hx hb dX0_isShut_12 rfl (lv_at hl 1 rfl) ?_
    refine lv_iadd hx hb dX0_isShut_13 ?_
    obtain ⟨i_4, hf⟩ := gd_some hf
    refine x_iald hx hb hK hP 1 0 rfl rfl i_4 _ rfl dX0_isShut_14 ?_
    refine lv_if_eq (tgt := 22) hx hb dX0_isShut_15 (by decide) (fun c_5 => ?_) (fun c_5 => ?_)
    · have hf := br_pos c_5 hf
      refine lv_iconst (v := 0) hx hb dX0_isShut_22 (by decide) ?_
      cases hf
      exact rt_z hQ hx hb hr rfl hlocks hP hD hS dX0_isShut_23
    · have hf := br_neg c_5 hf
      refine lv_iconst (v := 1) hx hb dX0_isShut_18 (by decide) ?_
      refine lv_goto (tgt := 23) hx hb dX0_isShut_19 (by decide) ?_
      cases hf
      exact rt_z hQ hx hb hr rfl hlocks hP hD hS dX0_isShut_23
abbrev rmX0_shutRooms : Room := ({ frames := 3, cells := 0, slots := 0, locals := 41 })
set_option maxHeartbeats 4000000 in
set_option maxRecDepth 100000 in
theorem kX0_shutRooms (l : Launch) (D : va_G) (cI cB cL : ClassId) (h0 : Nat) (h1 : Nat) (sz : Nat) (C : Nat → Int32) (w : Int32) (hf : fX0_shutRooms C = some w) : Met l yX0_shutRooms wsX0_shutRooms rmX0_shutRooms (mPc D (tyK cI cB cL) [.ref h0] sz [(h0, .inr (0, [.ref h1])), (h1, .inl (cI, 256, .inl C))]) (mQi D w [(h0, .inr (0, [.ref h1])), (h1, .inl (cI, 256, .inl C))] (va_A [(h0, .inr (0, [.ref h1])), (h1, .inl (cI, 256, .inl C))] sz)) 0 0 (va_A [(h0, .inr (0, [.ref h1])), (h1, .inl (cI, 256, .inl C))] sz) := by
  refine m_of (Qf := mQi D w [(h0, .inr (0, [.ref h1])), (h1, .inl (cI, 256, .inl C))]) (cc := cX0_shutRooms) (maxL := 3) (ret := (some .int)) (by decide) rfl (Nat.le_of_ble_eq_true rfl) ?_
  intro p e s m args below meth c A ls hsz hx hb hr hml hown hts hlocks hP hK hD hS hA hE hin hl Q hQ
  subst hsz
  have hl : lv_has ls 3 [(0, .ref h0)] := hl
  have hown : s.vm.findClass RX0 = some m.cls := hown
  have hl0 := hl
  have g21 : ∀ (k4 : Int32 → Int32 → Option (Int32)) (hk4 : ∀ (v1 : Int32) (v2 : Int32) (H : Heap) (locs : List Loc) (ls : Array Slot), k4 v1 v2 = some w → va_P D vwCl [(h0, .inr (0, [.ref h1])), (h1, .inl (cI, 256, .inl C))] H → va_D A [(h0, .inr (0, [.ref h1])), (h1, .inl (cI, 256, .inl C))] → va_S A s.heap H locs → lv_has ls 3 [(0, .ref h0), (1, .int v1), (2, .int v2)] → W p l e rmX0_shutRooms s m args below meth c H locs 0 0 Q (F0 m 4 ls [])) (v1 : Int32) (v2 : Int32) (H : Heap) (locs : List Loc) (ls : Array Slot), fX0_shutRooms_21 k4 v1 v2 = some w → va_P D vwCl [(h0, .inr (0, [.ref h1])), (h1, .inl (cI, 256, .inl C))] H → va_D A [(h0, .inr (0, [.ref h1])), (h1, .inl (cI, 256, .inl C))] → va_S A s.heap H locs → lv_has ls 3 [(0, .ref h0), (1, .int v1), (2, .int v2)] → W p l e rmX0_shutRooms s m args below meth c H locs 0 0 Q (F0 m 21 ls []) := by
    intro k4 hk4 v1 v2 H locs ls hf hP hD hS hl
    unfold fX0_shutRooms_21 at hf
    refine lv_iinc (v := (v2 + 1)) (lv' := [(2, .int (v2 + 1)), (0, .ref h0), (1, .int v1)]) hx hb dX0_shutRooms_21 hl (k := 2) rfl rfl (by decide) rfl (fun ls hl => ?_)
    refine lv_goto (tgt := 4) hx hb dX0_shutRooms_24 (by decide) ?_
    exact hk4 v1 (v2 + 1) _ _ _ hf hP hD hS (lv_sub hl [1, 2, 0] rfl)
  have g4 : ∀ (n : Nat) (v1 : Int32) (v2 : Int32) (H : Heap) (locs : List Loc) (ls : Array Slot), fX0_shutRooms_4 C n v1 v2 = some w → va_P D vwCl [(h0, .inr (0, [.ref h1])), (h1, .inl (cI, 256, .inl C))] H → va_D A [(h0, .inr (0, [.ref h1])), (h1, .inl (cI, 256, .inl C))] → va_S A s.heap H locs → lv_has ls 3 [(0, .ref h0), (1, .int v1), (2, .int v2)] → W p l e rmX0_shutRooms s m args below meth c H locs 0 0 Q (F0 m 4 ls []) := by
    intro  n
    induction n with
    | zero =>
      intro v1 v2 H locs ls hf
      exact absurd hf (by rw [fX0_shutRooms_4]; simp)
    | succ n ih =>
      intro v1 v2 H locs ls hf hP hD hS hl
      rw [fX0_shutRooms_4] at hf
      refine lv_iload_n hx hb dX0_shutRooms_4 rfl (lv_at hl 2 rfl) ?_
      refine lv_bipush (v := 36) hx hb dX0_shutRooms_5 (by decide) ?_
      refine lv_icmp_ge (tgt := 27) hx hb dX0_shutRooms_7 (by decide) (fun c_1 => ?_) (fun c_1 => ?_)
      · have hf := br_pos c_1 hf
        refine lv_iload_n hx hb dX0_shutRooms_27 rfl (lv_at hl 1 rfl) ?_
        cases hf
        exact rt_i hQ hx hb hr hlocks hP hD hS dX0_shutRooms_28
      · have hf := br_neg c_1 hf
        refine lv_aload_n hx hb dX0_shutRooms_10 rfl (lv_at hl 0 rfl) ?_
        refine lv_iload_n hx hb dX0_shutRooms_11 rfl (lv_at hl 2 rfl) ?_
        obtain ⟨q, h_2, hf⟩ := bd_some hf
        obtain ⟨r_3, rfl⟩ : ∃ z, z = q := ⟨_, rfl⟩
        try dsimp only at hf
        refine cl_i (ws := [(h0, .inr (0, [.ref h1])), (h1, .inl (cI, 256, .inl C))]) (wc := [(h0, .inr (0, [.ref h1])), (h1, .inl (cI, 256, .inl C))]) (wr := []) (w1 := [(h0, .inr (0, [.ref h1])), (h1, .inl (cI, 256, .inl C))]) (ws' := [(h0, .inr (0, [.ref h1])), (h1, .inl (cI, 256, .inl C))]) hP hD hS hA [0, 1] [] [0, 1] rfl rfl (by decide) (by decide) rfl (by decide) (va_runV (As := [.int v2]) (rest := []) ⟨hx, hb, hml, hown, hts⟩ (kX0_isShut l D cI cB cL h0 h1 _ C v2 r_3 h_2) (cwV 1 hts gX0_shutRooms_X0_isShut rfl rfl rfl (by decide +kernel) ⟨Nat.le_of_ble_eq_true rfl, Nat.le_of_ble_eq_true rfl⟩) (pre_V (ci := 0) (q0 := 0) (T := TX0) (N := 1) hK hE hP hD hS hA [0, 1] rfl (by decide) rfl rfl) rfl rfl hl.1 rfl (lv_room (Nat.le_of_ble_eq_true rfl)) dX0_shutRooms_12 ⟨Nat.le_of_ble_eq_true rfl, Nat.le_of_ble_eq_true rfl⟩) (fun H locs hP hD hS => ?_)
        refine lv_if_eq (tgt := 21) hx hb dX0_shutRooms_15 (by decide) (fun c_4 => ?_) (fun c_4 => ?_)
        · have hf := br_pos c_4 hf
          exact g21  (fX0_shutRooms_4 C n) ih v1 v2 _ _ _ hf hP hD hS (lv_sub hl [0, 1, 2] rfl)
        · have hf := br_neg c_4 hf
          refine lv_iinc (v := (v1 + 1)) (lv' := [(1, .int (v1 + 1)), (0, .ref h0), (2, .int v2)]) hx hb dX0_shutRooms_18 hl (k := 1) rfl rfl (by decide) rfl (fun ls hl => ?_)
          exact g21  (fX0_shutRooms_4 C n) ih (v1 + 1) v2 _ _ _ hf hP hD hS (lv_sub hl [1, 0, 2] rfl)
  unfold fX0_shutRooms at hf
  refine lv_iconst (v := 0) hx hb dX0_shutRooms_0 (by decide) ?_
  refine lv_istore_n (lv' := [(1, .int 0), (0, .ref h0)]) hx hb dX0_shutRooms_1 rfl hl (by decide) rfl (fun ls hl => ?_)
  refine lv_iconst (v := 0) hx hb dX0_shutRooms_2 (by decide) ?_
  refine lv_istore_n (lv' := [(2, .int 0), (1, .int 0), (0, .ref h0)]) hx hb dX0_shutRooms_3 rfl hl (by decide) rfl (fun ls hl => ?_)
  exact g4  5000 0 0 _ _ _ hf hP hD hS (lv_sub hl [2, 1, 0] rfl)
abbrev rmX0_presentRule : Room := ({ frames := 1, cells := 0, slots := 0, locals := 0 })
set_option maxHeartbeats 4000000 in
set_option maxRecDepth 100000 in
theorem kX0_presentRule (l : Launch) (D : va_G) (cI cB cL : ClassId) (h0 : Nat) (h1 : Nat) (sz : Nat) (C : Nat → Int32) (w : Int32) (hf : fX0_presentRule C = some w) : Met l yX0_presentRule wsX0_presentRule rmX0_presentRule (mPc D (tyK cI cB cL) [.ref h0] sz [(h0, .inr (0, [.ref h1])), (h1, .inl (cI, 256, .inl C))]) (mQi D w [(h0, .inr (0, [.ref h1])), (h1, .inl (cI, 256, .inl C))] (va_A [(h0, .inr (0, [.ref h1])), (h1, .inl (cI, 256, .inl C))] sz)) 0 0 (va_A [(h0, .inr (0, [.ref h1])), (h1, .inl (cI, 256, .inl C))] sz) := by
  refine m_of (Qf := mQi D w [(h0, .inr (0, [.ref h1])), (h1, .inl (cI, 256, .inl C))]) (cc := cX0_presentRule) (maxL := 1) (ret := (some .int)) (by decide) rfl (Nat.le_of_ble_eq_true rfl) ?_
  intro p e s m args below meth c A ls hsz hx hb hr hml hown hts hlocks hP hK hD hS hA hE hin hl Q hQ
  subst hsz
  have hl : lv_has ls 1 [(0, .ref h0)] := hl
  have hown : s.vm.findClass RX0 = some m.cls := hown
  have iX0 : ∀ w ∈ u_ws RX0 TX0 1, w ∈ wsX0_presentRule := by decide +kernel
  unfold fX0_presentRule at hf
  refine lv_aload_n hx hb dX0_presentRule_0 rfl (lv_at hl 0 rfl) ?_
  refine va_get (D := D) (ci := 0) (v := .ref h1) (C := RX0) (T := TX0) (N := 1) hx hb hts iX0 hown hK hP 0 rfl rfl 0 (by decide) (hts (.fieldLink RX0 9 "LongCaterpillars$House" "cells" "[I") (List.mem_of_getElem? (i := 1) rfl)) (fun _ h9 => h9) rfl dX0_presentRule_1 ?_
  refine lv_iconst (v := 1) hx hb dX0_presentRule_4 (by decide) ?_
  refine x_iald hx hb hK hP 1 0 rfl rfl (vl rfl) 1 rfl dX0_presentRule_5 ?_
  cases hf
  exact rt_i hQ hx hb hr hlocks hP hD hS dX0_presentRule_6
abbrev rmX0_waitsSoFar : Room := ({ frames := 1, cells := 0, slots := 0, locals := 0 })
set_option maxHeartbeats 4000000 in
set_option maxRecDepth 100000 in
theorem kX0_waitsSoFar (l : Launch) (D : va_G) (cI cB cL : ClassId) (h0 : Nat) (h1 : Nat) (sz : Nat) (C : Nat → Int32) (w : Int32) (hf : fX0_waitsSoFar C = some w) : Met l yX0_waitsSoFar wsX0_waitsSoFar rmX0_waitsSoFar (mPc D (tyK cI cB cL) [.ref h0] sz [(h0, .inr (0, [.ref h1])), (h1, .inl (cI, 256, .inl C))]) (mQi D w [(h0, .inr (0, [.ref h1])), (h1, .inl (cI, 256, .inl C))] (va_A [(h0, .inr (0, [.ref h1])), (h1, .inl (cI, 256, .inl C))] sz)) 0 0 (va_A [(h0, .inr (0, [.ref h1])), (h1, .inl (cI, 256, .inl C))] sz) := by
  refine m_of (Qf := mQi D w [(h0, .inr (0, [.ref h1])), (h1, .inl (cI, 256, .inl C))]) (cc := cX0_waitsSoFar) (maxL := 1) (ret := (some .int)) (by decide) rfl (Nat.le_of_ble_eq_true rfl) ?_
  intro p e s m args below meth c A ls hsz hx hb hr hml hown hts hlocks hP hK hD hS hA hE hin hl Q hQ
  subst hsz
  have hl : lv_has ls 1 [(0, .ref h0)] := hl
  have hown : s.vm.findClass RX0 = some m.cls := hown
  have iX0 : ∀ w ∈ u_ws RX0 TX0 1, w ∈ wsX0_waitsSoFar := by decide +kernel
  unfold fX0_waitsSoFar at hf
  refine lv_aload_n hx hb dX0_waitsSoFar_0 rfl (lv_at hl 0 rfl) ?_
  refine va_get (D := D) (ci := 0) (v := .ref h1) (C := RX0) (T := TX0) (N := 1) hx hb hts iX0 hown hK hP 0 rfl rfl 0 (by decide) (hts (.fieldLink RX0 9 "LongCaterpillars$House" "cells" "[I") (List.mem_of_getElem? (i := 1) rfl)) (fun _ h9 => h9) rfl dX0_waitsSoFar_1 ?_
  refine lv_iconst (v := 3) hx hb dX0_waitsSoFar_4 (by decide) ?_
  refine x_iald hx hb hK hP 1 0 rfl rfl (vl rfl) 3 rfl dX0_waitsSoFar_5 ?_
  cases hf
  exact rt_i hQ hx hb hr hlocks hP hD hS dX0_waitsSoFar_6
abbrev rmX0_has : Room := ({ frames := 1, cells := 0, slots := 0, locals := 0 })
set_option maxHeartbeats 4000000 in
set_option maxRecDepth 100000 in
theorem kX0_has (l : Launch) (D : va_G) (cI cB cL : ClassId) (h0 : Nat) (h1 : Nat) (sz : Nat) (C : Nat → Int32) (p0 : Int32) (w : Int32) (hf : fX0_has C p0 = some w) : Met l yX0_has wsX0_has rmX0_has (mPc D (tyK cI cB cL) [.ref h0, .int p0] sz [(h0, .inr (0, [.ref h1])), (h1, .inl (cI, 256, .inl C))]) (mQi D w [(h0, .inr (0, [.ref h1])), (h1, .inl (cI, 256, .inl C))] (va_A [(h0, .inr (0, [.ref h1])), (h1, .inl (cI, 256, .inl C))] sz)) 0 0 (va_A [(h0, .inr (0, [.ref h1])), (h1, .inl (cI, 256, .inl C))] sz) := by
  refine m_of (Qf := mQi D w [(h0, .inr (0, [.ref h1])), (h1, .inl (cI, 256, .inl C))]) (cc := cX0_has) (maxL := 2) (ret := (some .boolean)) (by decide) rfl (Nat.le_of_ble_eq_true rfl) ?_
  intro p e s m args below meth c A ls hsz hx hb hr hml hown hts hlocks hP hK hD hS hA hE hin hl Q hQ
  subst hsz
  have hl : lv_has ls 2 [(0, .ref h0), (1, .int p0)] := hl
  have hown : s.vm.findClass RX0 = some m.cls := hown
  have iX0 : ∀ w ∈ u_ws RX0 TX0 1, w ∈ wsX0_has := by decide +kernel
  unfold fX0_has at hf
  refine lv_iload_n hx hb dX0_has_0 rfl (lv_at hl 1 rfl) ?_
  refine lv_if_lt (tgt := 18) hx hb dX0_has_1 (by decide) (fun c_1 => ?_) (fun c_1 => ?_)
  · have hf := br_pos c_1 hf
    refine lv_iconst (v := 0) hx hb dX0_has_18 (by decide) ?_
    cases hf
    exact rt_z hQ hx hb hr rfl hlocks hP hD hS dX0_has_19
  · have hf := br_neg c_1 hf
    refine lv_iload_n hx hb dX0_has_4 rfl (lv_at hl 1 rfl) ?_
    refine lv_aload_n hx hb dX0_has_5 rfl (lv_at hl 0 rfl) ?_
    refine va_get (D := D) (ci := 0) (v := .ref h1) (C := RX0) (T := TX0) (N := 1) hx hb hts iX0 hown hK hP 0 rfl rfl 0 (by decide) (hts (.fieldLink RX0 9 "LongCaterpillars$House" "cells" "[I") (List.mem_of_getElem? (i := 1) rfl)) (fun _ h9 => h9) rfl dX0_has_6 ?_
    refine lv_iconst (v := 0) hx hb dX0_has_9 (by decide) ?_
    refine x_iald hx hb hK hP 1 0 rfl rfl (vl rfl) 0 rfl dX0_has_10 ?_
    refine lv_icmp_ge (tgt := 18) hx hb dX0_has_11 (by decide) (fun c_2 => ?_) (fun c_2 => ?_)
    · have hf := br_pos c_2 hf
      refine lv_iconst (v := 0) hx hb dX0_has_18 (by decide) ?_
      cases hf
      exact rt_z hQ hx hb hr rfl hlocks hP hD hS dX0_has_19
    · have hf := br_neg c_2 hf
      refine lv_iconst (v := 1) hx hb dX0_has_14 (by decide) ?_
      refine lv_goto (tgt := 19) hx hb dX0_has_15 (by decide) ?_
      cases hf
      exact rt_z hQ hx hb hr rfl hlocks hP hD hS dX0_has_19
abbrev rmX0_stepAlongRow : Room := ({ frames := 1, cells := 0, slots := 0, locals := 0 })
set_option maxHeartbeats 4000000 in
set_option maxRecDepth 100000 in
theorem kX0_stepAlongRow (l : Launch) (D : va_G) (cI cB cL : ClassId) (sz : Nat) (p0 : Int32) (p1 : Int32) (w : Int32) (hf : fX0_stepAlongRow p0 p1 = some w) : Met l yX0_stepAlongRow wsX0_stepAlongRow rmX0_stepAlongRow (mPc D (tyK cI cB cL) [.int p0, .int p1] sz []) (mQi D w [] (va_A [] sz)) 0 0 (va_A [] sz) := by
  refine m_of (Qf := mQi D w []) (cc := cX0_stepAlongRow) (maxL := 3) (ret := (some .int)) (by decide) rfl (Nat.le_of_ble_eq_true rfl) ?_
  intro p e s m args below meth c A ls hsz hx hb hr hml hown hts hlocks hP hK hD hS hA hE hin hl Q hQ
  subst hsz
  have hl : lv_has ls 3 [(0, .int p0), (1, .int p1)] := hl
  have hown : s.vm.findClass RX0 = some m.cls := hown
  unfold fX0_stepAlongRow at hf
  refine lv_iload_n hx hb dX0_stepAlongRow_0 rfl (lv_at hl 1 rfl) ?_
  refine lv_bipush (v := 6) hx hb dX0_stepAlongRow_1 (by decide) ?_
  refine lv_irem hx hb dX0_stepAlongRow_3 (by decide) ?_
  refine lv_iload_n hx hb dX0_stepAlongRow_4 rfl (lv_at hl 0 rfl) ?_
  refine lv_bipush (v := 6) hx hb dX0_stepAlongRow_5 (by decide) ?_
  refine lv_irem hx hb dX0_stepAlongRow_7 (by decide) ?_
  refine lv_isub hx hb dX0_stepAlongRow_8 ?_
  refine lv_istore_n (lv' := [(2, .int ((p1 - p1 / 6 * 6) - (p0 - p0 / 6 * 6))), (0, .int p0), (1, .int p1)]) hx hb dX0_stepAlongRow_9 rfl hl (by decide) rfl (fun ls hl => ?_)
  refine lv_iload_n hx hb dX0_stepAlongRow_10 rfl (lv_at hl 0 rfl) ?_
  refine lv_if_ne (tgt := 16) hx hb dX0_stepAlongRow_11 (by decide) (fun c_1 => ?_) (fun c_1 => ?_)
  · have hf := br_neg c_1 hf
    refine lv_iload_n hx hb dX0_stepAlongRow_16 rfl (lv_at hl 0 rfl) ?_
    refine lv_if_le (tgt := 26) hx hb dX0_stepAlongRow_17 (by decide) (fun c_2 => ?_) (fun c_2 => ?_)
    · have hf := br_pos c_2 hf
      refine lv_iload_n hx hb dX0_stepAlongRow_26 rfl (lv_at hl 1 rfl) ?_
      refine lv_iconst (v := 1) hx hb dX0_stepAlongRow_27 (by decide) ?_
      refine lv_isub hx hb dX0_stepAlongRow_28 ?_
      cases hf
      exact rt_i hQ hx hb hr hlocks hP hD hS dX0_stepAlongRow_29
    · have hf := br_neg c_2 hf
      refine lv_iload_n hx hb dX0_stepAlongRow_20 rfl (lv_at hl 1 rfl) ?_
      refine lv_iconst (v := 1) hx hb dX0_stepAlongRow_21 (by decide) ?_
      refine lv_iadd hx hb dX0_stepAlongRow_22 ?_
      refine lv_goto (tgt := 29) hx hb dX0_stepAlongRow_23 (by decide) ?_
      cases hf
      exact rt_i hQ hx hb hr hlocks hP hD hS dX0_stepAlongRow_29
  · have hf := br_pos c_1 hf
    refine lv_iconst (v := (-1)) hx hb dX0_stepAlongRow_14 (by decide) ?_
    cases hf
    exact rt_i hQ hx hb hr hlocks hP hD hS dX0_stepAlongRow_15
abbrev rmX0_stepAlongColumn : Room := ({ frames := 1, cells := 0, slots := 0, locals := 0 })
set_option maxHeartbeats 4000000 in
set_option maxRecDepth 100000 in
theorem kX0_stepAlongColumn (l : Launch) (D : va_G) (cI cB cL : ClassId) (sz : Nat) (p0 : Int32) (p1 : Int32) (w : Int32) (hf : fX0_stepAlongColumn p0 p1 = some w) : Met l yX0_stepAlongColumn wsX0_stepAlongColumn rmX0_stepAlongColumn (mPc D (tyK cI cB cL) [.int p0, .int p1] sz []) (mQi D w [] (va_A [] sz)) 0 0 (va_A [] sz) := by
  refine m_of (Qf := mQi D w []) (cc := cX0_stepAlongColumn) (maxL := 3) (ret := (some .int)) (by decide) rfl (Nat.le_of_ble_eq_true rfl) ?_
  intro p e s m args below meth c A ls hsz hx hb hr hml hown hts hlocks hP hK hD hS hA hE hin hl Q hQ
  subst hsz
  have hl : lv_has ls 3 [(0, .int p0), (1, .int p1)] := hl
  have hown : s.vm.findClass RX0 = some m.cls := hown
  unfold fX0_stepAlongColumn at hf
  refine lv_iload_n hx hb dX0_stepAlongColumn_0 rfl (lv_at hl 1 rfl) ?_
  refine lv_bipush (v := 6) hx hb dX0_stepAlongColumn_1 (by decide) ?_
  refine lv_idiv hx hb dX0_stepAlongColumn_3 (by decide) ?_
  refine lv_iload_n hx hb dX0_stepAlongColumn_4 rfl (lv_at hl 0 rfl) ?_
  refine lv_bipush (v := 6) hx hb dX0_stepAlongColumn_5 (by decide) ?_
  refine lv_idiv hx hb dX0_stepAlongColumn_7 (by decide) ?_
  refine lv_isub hx hb dX0_stepAlongColumn_8 ?_
  refine lv_istore_n (lv' := [(2, .int ((p1 / 6) - (p0 / 6))), (0, .int p0), (1, .int p1)]) hx hb dX0_stepAlongColumn_9 rfl hl (by decide) rfl (fun ls hl => ?_)
  refine lv_iload_n hx hb dX0_stepAlongColumn_10 rfl (lv_at hl 0 rfl) ?_
  refine lv_if_ne (tgt := 16) hx hb dX0_stepAlongColumn_11 (by decide) (fun c_1 => ?_) (fun c_1 => ?_)
  · have hf := br_neg c_1 hf
    refine lv_iload_n hx hb dX0_stepAlongColumn_16 rfl (lv_at hl 0 rfl) ?_
    refine lv_if_le (tgt := 27) hx hb dX0_stepAlongColumn_17 (by decide) (fun c_2 => ?_) (fun c_2 => ?_)
    · have hf := br_pos c_2 hf
      refine lv_iload_n hx hb dX0_stepAlongColumn_27 rfl (lv_at hl 1 rfl) ?_
      refine lv_bipush (v := 6) hx hb dX0_stepAlongColumn_28 (by decide) ?_
      refine lv_isub hx hb dX0_stepAlongColumn_30 ?_
      cases hf
      exact rt_i hQ hx hb hr hlocks hP hD hS dX0_stepAlongColumn_31
    · have hf := br_neg c_2 hf
      refine lv_iload_n hx hb dX0_stepAlongColumn_20 rfl (lv_at hl 1 rfl) ?_
      refine lv_bipush (v := 6) hx hb dX0_stepAlongColumn_21 (by decide) ?_
      refine lv_iadd hx hb dX0_stepAlongColumn_23 ?_
      refine lv_goto (tgt := 31) hx hb dX0_stepAlongColumn_24 (by decide) ?_
      cases hf
      exact rt_i hQ hx hb hr hlocks hP hD hS dX0_stepAlongColumn_31
  · have hf := br_pos c_1 hf
    refine lv_iconst (v := (-1)) hx hb dX0_stepAlongColumn_14 (by decide) ?_
    cases hf
    exact rt_i hQ hx hb hr hlocks hP hD hS dX0_stepAlongColumn_15
abbrev rmX0_isFree : Room := ({ frames := 1, cells := 0, slots := 0, locals := 0 })
set_option maxHeartbeats 4000000 in
set_option maxRecDepth 100000 in
theorem kX0_isFree (l : Launch) (D : va_G) (cI cB cL : ClassId) (h0 : Nat) (h1 : Nat) (sz : Nat) (C : Nat → Int32) (p0 : Int32) (w : Int32) (hf : fX0_isFree C p0 = some w) : Met l yX0_isFree wsX0_isFree rmX0_isFree (mPc D (tyK cI cB cL) [.ref h0, .int p0] sz [(h0, .inr (0, [.ref h1])), (h1, .inl (cI, 256, .inl C))]) (mQi D w [(h0, .inr (0, [.ref h1])), (h1, .inl (cI, 256, .inl C))] (va_A [(h0, .inr (0, [.ref h1])), (h1, .inl (cI, 256, .inl C))] sz)) 0 0 (va_A [(h0, .inr (0, [.ref h1])), (h1, .inl (cI, 256, .inl C))] sz) := by
  refine m_of (Qf := mQi D w [(h0, .inr (0, [.ref h1])), (h1, .inl (cI, 256, .inl C))]) (cc := cX0_isFree) (maxL := 2) (ret := (some .boolean)) (by decide) rfl (Nat.le_of_ble_eq_true rfl) ?_
  intro p e s m args below meth c A ls hsz hx hb hr hml hown hts hlocks hP hK hD hS hA hE hin hl Q hQ
  subst hsz
  have hl : lv_has ls 2 [(0, .ref h0), (1, .int p0)] := hl
  have hown : s.vm.findClass RX0 = some m.cls := hown
  have iX0 : ∀ w ∈ u_ws RX0 TX0 1, w ∈ wsX0_isFree := by decide +kernel
  unfold fX0_isFree at hf
  refine lv_iload_n hx hb dX0_isFree_0 rfl (lv_at hl 1 rfl) ?_
  refine lv_if_lt (tgt := 38) hx hb dX0_isFree_1 (by decide) (fun c_1 => ?_) (fun c_1 => ?_)
  · have hf := br_pos c_1 hf
    refine lv_iconst (v := 0) hx hb dX0_isFree_38 (by decide) ?_
    cases hf
    exact rt_z hQ hx hb hr rfl hlocks hP hD hS dX0_isFree_39
  · have hf := br_neg c_1 hf
    refine lv_iload_n hx hb dX0_isFree_4 rfl (lv_at hl 1 rfl) ?_
    refine lv_bipush (v := 36) hx hb dX0_isFree_5 (by decide) ?_
    refine lv_icmp_ge (tgt := 38) hx hb dX0_isFree_7 (by decide) (fun c_2 => ?_) (fun c_2 => ?_)
    · have hf := br_pos c_2 hf
      refine lv_iconst (v := 0) hx hb dX0_isFree_38 (by decide) ?_
      cases hf
      exact rt_z hQ hx hb hr rfl hlocks hP hD hS dX0_isFree_39
    · have hf := br_neg c_2 hf
      refine lv_aload_n hx hb dX0_isFree_10 rfl (lv_at hl 0 rfl) ?_
      refine va_get (D := D) (ci := 0) (v := .ref h1) (C := RX0) (T := TX0) (N := 1) hx hb hts iX0 hown hK hP 0 rfl rfl 0 (by decide) (hts (.fieldLink RX0 9 "LongCaterpillars$House" "cells" "[I") (List.mem_of_getElem? (i := 1) rfl)) (fun _ h9 => h9) rfl dX0_isFree_11 ?_
      refine lv_iconst (v := 4) hx hb dX0_isFree_14 (by decide) ?_
      refine lv_iload_n hx hb dX0_isFree_15 rfl (lv_at hl 1 rfl) ?_
      refine lv_iadd hx hb dX0_isFree_16 ?_
      obtain ⟨i_3, hf⟩ := gd_some hf
      refine x_iald hx hb hK hP 1 0 rfl rfl i_3 _ rfl dX0_isFree_17 ?_
      refine lv_if_ne (tgt := 38) hx hb dX0_isFree_18 (by decide) (fun c_4 => ?_) (fun c_4 => ?_)
      · have hf := br_neg c_4 hf
        refine lv_iconst (v := 0) hx hb dX0_isFree_38 (by decide) ?_
        cases hf
        exact rt_z hQ hx hb hr rfl hlocks hP hD hS dX0_isFree_39
      · have hf := br_pos c_4 hf
        refine lv_aload_n hx hb dX0_isFree_21 rfl (lv_at hl 0 rfl) ?_
        refine va_get (D := D) (ci := 0) (v := .ref h1) (C := RX0) (T := TX0) (N := 1) hx hb hts iX0 hown hK hP 0 rfl rfl 0 (by decide) (hts (.fieldLink RX0 9 "LongCaterpillars$House" "cells" "[I") (List.mem_of_getElem? (i := 1) rfl)) (fun _ h9 => h9) rfl dX0_isFree_22 ?_
        refine lv_bipush (v := 40) hx hb dX0_isFree_25 (by decide) ?_
        refine lv_iload_n hx hb dX0_isFree_27 rfl (lv_at hl 1 rfl) ?_
        refine lv_iadd hx hb dX0_isFree_28 ?_
        obtain ⟨i_5, hf⟩ := gd_some hf
        refine x_iald hx hb hK hP 1 0 rfl rfl i_5 _ rfl dX0_isFree_29 ?_
        refine lv_iconst (v := (-1)) hx hb dX0_isFree_30 (by decide) ?_
        refine lv_icmp_ne (tgt := 38) hx hb dX0_isFree_31 (by decide) (fun c_6 => ?_) (fun c_6 => ?_)
        · have hf := br_neg c_6 hf
          refine lv_iconst (v := 0) hx hb dX0_isFree_38 (by decide) ?_
          cases hf
          exact rt_z hQ hx hb hr rfl hlocks hP hD hS dX0_isFree_39
        · have hf := br_pos c_6 hf
          refine lv_iconst (v := 1) hx hb dX0_isFree_34 (by decide) ?_
          refine lv_goto (tgt := 39) hx hb dX0_isFree_35 (by decide) ?_
          cases hf
          exact rt_z hQ hx hb hr rfl hlocks hP hD hS dX0_isFree_39
abbrev rmX0_nextRoomOf : Room := ({ frames := 2, cells := 0, slots := 0, locals := 22 })
set_option maxHeartbeats 4000000 in
set_option maxRecDepth 100000 in
theorem kX0_nextRoomOf (l : Launch) (D : va_G) (cI cB cL : ClassId) (h0 : Nat) (h1 : Nat) (sz : Nat) (C : Nat → Int32) (p0 : Int32) (w : Int32) (hf : fX0_nextRoomOf C p0 = some w) : Met l yX0_nextRoomOf wsX0_nextRoomOf rmX0_nextRoomOf (mPc D (tyK cI cB cL) [.ref h0, .int p0] sz [(h0, .inr (0, [.ref h1])), (h1, .inl (cI, 256, .inl C))]) (mQi D w [(h0, .inr (0, [.ref h1])), (h1, .inl (cI, 256, .inl C))] (va_A [(h0, .inr (0, [.ref h1])), (h1, .inl (cI, 256, .inl C))] sz)) 0 0 (va_A [(h0, .inr (0, [.ref h1])), (h1, .inl (cI, 256, .inl C))] sz) := by
  refine m_of (Qf := mQi D w [(h0, .inr (0, [.ref h1])), (h1, .inl (cI, 256, .inl C))]) (cc := cX0_nextRoomOf) (maxL := 6) (ret := (some .int)) (by decide) rfl (Nat.le_of_ble_eq_true rfl) ?_
  intro p e s m args below meth c A ls hsz hx hb hr hml hown hts hlocks hP hK hD hS hA hE hin hl Q hQ
  subst hsz
  have hl : lv_has ls 6 [(0, .ref h0), (1, .int p0)] := hl
  have hown : s.vm.findClass RX0 = some m.cls := hown
  have iX0 : ∀ w ∈ u_ws RX0 TX0 1, w ∈ wsX0_nextRoomOf := by decide +kernel
  have hl0 := hl
  have g105 : ∀ (v3 : Int32) (v4 : Int32) (z0 : Int32) (H : Heap) (locs : List Loc) (ls : Array Slot), fX0_nextRoomOf_105 v3 v4 z0 = some w → va_P D vwCl [(h0, .inr (0, [.ref h1])), (h1, .inl (cI, 256, .inl C))] H → va_D A [(h0, .inr (0, [.ref h1])), (h1, .inl (cI, 256, .inl C))] → va_S A s.heap H locs → lv_has ls 6 [(3, .int v3), (4, .int v4)] → W p l e rmX0_nextRoomOf s m args below meth c H locs 0 0 Q (F0 m 105 ls [.int z0]) := by
    intro  v3 v4 z0 H locs ls hf hP hD hS hl
    unfold fX0_nextRoomOf_105 at hf
    refine lv_istore (lv' := [(5, .int z0), (3, .int v3), (4, .int v4)]) hx hb dX0_nextRoomOf_105 hl (by decide) rfl (fun ls hl => ?_)
    refine lv_iload hx hb dX0_nextRoomOf_107 (lv_at hl 0 rfl) ?_
    refine lv_if_eq (tgt := 125) hx hb dX0_nextRoomOf_109 (by decide) (fun c_1 => ?_) (fun c_1 => ?_)
    · have hf := br_pos c_1 hf
      refine lv_iload_n hx hb dX0_nextRoomOf_125 rfl (lv_at hl 1 rfl) ?_
      refine lv_iconst (v := (-1)) hx hb dX0_nextRoomOf_126 (by decide) ?_
      refine lv_icmp_eq (tgt := 134) hx hb dX0_nextRoomOf_127 (by decide) (fun c_2 => ?_) (fun c_2 => ?_)
      · have hf := br_pos c_2 hf
        refine lv_iload hx hb dX0_nextRoomOf_134 (lv_at hl 2 rfl) ?_
        cases hf
        exact rt_i hQ hx hb hr hlocks hP hD hS dX0_nextRoomOf_136
      · have hf := br_neg c_2 hf
        refine lv_iload_n hx hb dX0_nextRoomOf_130 rfl (lv_at hl 1 rfl) ?_
        refine lv_goto (tgt := 136) hx hb dX0_nextRoomOf_131 (by decide) ?_
        cases hf
        exact rt_i hQ hx hb hr hlocks hP hD hS dX0_nextRoomOf_136
    · have hf := br_neg c_1 hf
      refine lv_iload hx hb dX0_nextRoomOf_112 (lv_at hl 2 rfl) ?_
      refine lv_iconst (v := (-1)) hx hb dX0_nextRoomOf_114 (by decide) ?_
      refine lv_icmp_eq (tgt := 123) hx hb dX0_nextRoomOf_115 (by decide) (fun c_3 => ?_) (fun c_3 => ?_)
      · have hf := br_pos c_3 hf
        refine lv_iload_n hx hb dX0_nextRoomOf_123 rfl (lv_at hl 1 rfl) ?_
        cases hf
        exact rt_i hQ hx hb hr hlocks hP hD hS dX0_nextRoomOf_124
      · have hf := br_neg c_3 hf
        refine lv_iload hx hb dX0_nextRoomOf_118 (lv_at hl 2 rfl) ?_
        refine lv_goto (tgt := 124) hx hb dX0_nextRoomOf_120 (by decide) ?_
        cases hf
        exact rt_i hQ hx hb hr hlocks hP hD hS dX0_nextRoomOf_124
  have g100 : ∀ (v3 : Int32) (v4 : Int32) (H : Heap) (locs : List Loc) (ls : Array Slot), fX0_nextRoomOf_100 v3 v4 = some w → va_P D vwCl [(h0, .inr (0, [.ref h1])), (h1, .inl (cI, 256, .inl C))] H → va_D A [(h0, .inr (0, [.ref h1])), (h1, .inl (cI, 256, .inl C))] → va_S A s.heap H locs → lv_has ls 6 [(3, .int v3), (4, .int v4)] → W p l e rmX0_nextRoomOf s m args below meth c H locs 0 0 Q (F0 m 100 ls []) := by
    intro  v3 v4 H locs ls hf hP hD hS hl
    unfold fX0_nextRoomOf_100 at hf
    refine lv_iconst (v := 1) hx hb dX0_nextRoomOf_100 (by decide) ?_
    refine lv_goto (tgt := 105) hx hb dX0_nextRoomOf_101 (by decide) ?_
    exact g105  v3 v4 1 _ _ _ hf hP hD hS (lv_sub hl [0, 1] rfl)
  have g104 : ∀ (v3 : Int32) (v4 : Int32) (H : Heap) (locs : List Loc) (ls : Array Slot), fX0_nextRoomOf_104 v3 v4 = some w → va_P D vwCl [(h0, .inr (0, [.ref h1])), (h1, .inl (cI, 256, .inl C))] H → va_D A [(h0, .inr (0, [.ref h1])), (h1, .inl (cI, 256, .inl C))] → va_S A s.heap H locs → lv_has ls 6 [(3, .int v3), (4, .int v4)] → W p l e rmX0_nextRoomOf s m args below meth c H locs 0 0 Q (F0 m 104 ls []) := by
    intro  v3 v4 H locs ls hf hP hD hS hl
    unfold fX0_nextRoomOf_104 at hf
    refine lv_iconst (v := 0) hx hb dX0_nextRoomOf_104 (by decide) ?_
    exact g105  v3 v4 0 _ _ _ hf hP hD hS (lv_sub hl [0, 1] rfl)
  unfold fX0_nextRoomOf at hf
  refine lv_aload_n hx hb dX0_nextRoomOf_0 rfl (lv_at hl 0 rfl) ?_
  refine lv_iload_n hx hb dX0_nextRoomOf_1 rfl (lv_at hl 1 rfl) ?_
  refine lv_iconst (v := 0) hx hb dX0_nextRoomOf_2 (by decide) ?_
  obtain ⟨q, h_4, hf⟩ := bd_some hf
  obtain ⟨r_5, rfl⟩ : ∃ z, z = q := ⟨_, rfl⟩
  try dsimp only at hf
  refine cl_i (ws := [(h0, .inr (0, [.ref h1])), (h1, .inl (cI, 256, .inl C))]) (wc := [(h0, .inr (0, [.ref h1])), (h1, .inl (cI, 256, .inl C))]) (wr := []) (w1 := [(h0, .inr (0, [.ref h1])), (h1, .inl (cI, 256, .inl C))]) (ws' := [(h0, .inr (0, [.ref h1])), (h1, .inl (cI, 256, .inl C))]) hP hD hS hA [0, 1] [] [0, 1] rfl rfl (by decide) (by decide) rfl (by decide) (va_runV (As := [.int p0, .int 0]) (rest := []) ⟨hx, hb, hml, hown, hts⟩ (kX0_number l D cI cB cL h0 h1 _ C p0 0 r_5 h_4) (cwV 2 hts gX0_nextRoomOf_X0_number rfl rfl rfl (by decide +kernel) ⟨Nat.le_of_ble_eq_true rfl, Nat.le_of_ble_eq_true rfl⟩) (pre_V (ci := 0) (q0 := 0) (T := TX0) (N := 1) hK hE hP hD hS hA [0, 1] rfl (by decide) rfl rfl) rfl rfl hl.1 rfl (lv_room (Nat.le_of_ble_eq_true rfl)) dX0_nextRoomOf_3 ⟨Nat.le_of_ble_eq_true rfl, Nat.le_of_ble_eq_true rfl⟩) (fun H locs hP hD hS => ?_)
  refine lv_istore_n (lv' := [(2, .int r_5), (0, .ref h0), (1, .int p0)]) hx hb dX0_nextRoomOf_6 rfl hl (by decide) rfl (fun ls hl => ?_)
  refine lv_iload_n hx hb dX0_nextRoomOf_7 rfl (lv_at hl 0 rfl) ?_
  refine lv_if_ne (tgt := 19) hx hb dX0_nextRoomOf_8 (by decide) (fun c_6 => ?_) (fun c_6 => ?_)
  · have hf := br_neg c_6 hf
    refine lv_iload_n hx hb dX0_nextRoomOf_19 rfl (lv_at hl 0 rfl) ?_
    refine lv_iconst (v := 1) hx hb dX0_nextRoomOf_20 (by decide) ?_
    refine lv_icmp_eq (tgt := 26) hx hb dX0_nextRoomOf_21 (by decide) (fun c_7 => ?_) (fun c_7 => ?_)
    · have hf := br_pos c_7 hf
      refine lv_aload_n hx hb dX0_nextRoomOf_26 rfl (lv_at hl 1 rfl) ?_
      refine lv_iload_n hx hb dX0_nextRoomOf_27 rfl (lv_at hl 2 rfl) ?_
      refine lv_bipush (v := 9) hx hb dX0_nextRoomOf_28 (by decide) ?_
      obtain ⟨q, h_8, hf⟩ := bd_some hf
      obtain ⟨r_9, rfl⟩ : ∃ z, z = q := ⟨_, rfl⟩
      try dsimp only at hf
      refine cl_i (ws := [(h0, .inr (0, [.ref h1])), (h1, .inl (cI, 256, .inl C))]) (wc := [(h0, .inr (0, [.ref h1])), (h1, .inl (cI, 256, .inl C))]) (wr := []) (w1 := [(h0, .inr (0, [.ref h1])), (h1, .inl (cI, 256, .inl C))]) (ws' := [(h0, .inr (0, [.ref h1])), (h1, .inl (cI, 256, .inl C))]) hP hD hS hA [0, 1] [] [0, 1] rfl rfl (by decide) (by decide) rfl (by decide) (va_runV (As := [.int p0, .int 9]) (rest := []) ⟨hx, hb, hml, hown, hts⟩ (kX0_number l D cI cB cL h0 h1 _ C p0 9 r_9 h_8) (cwV 2 hts gX0_nextRoomOf_X0_number rfl rfl rfl (by decide +kernel) ⟨Nat.le_of_ble_eq_true rfl, Nat.le_of_ble_eq_true rfl⟩) (pre_V (ci := 0) (q0 := 0) (T := TX0) (N := 1) hK hE hP hD hS hA [0, 1] rfl (by decide) rfl rfl) rfl rfl hl.1 rfl (lv_room (Nat.le_of_ble_eq_true rfl)) dX0_nextRoomOf_30 ⟨Nat.le_of_ble_eq_true rfl, Nat.le_of_ble_eq_true rfl⟩) (fun H locs hP hD hS => ?_)
      refine lv_aload_n hx hb dX0_nextRoomOf_33 rfl (lv_at hl 1 rfl) ?_
      refine lv_iload_n hx hb dX0_nextRoomOf_34 rfl (lv_at hl 2 rfl) ?_
      refine lv_bipush (v := 7) hx hb dX0_nextRoomOf_35 (by decide) ?_
      obtain ⟨q, h_10, hf⟩ := bd_some hf
      obtain ⟨r_11, rfl⟩ : ∃ z, z = q := ⟨_, rfl⟩
      try dsimp only at hf
      refine cl_i (ws := [(h0, .inr (0, [.ref h1])), (h1, .inl (cI, 256, .inl C))]) (wc := [(h0, .inr (0, [.ref h1])), (h1, .inl (cI, 256, .inl C))]) (wr := []) (w1 := [(h0, .inr (0, [.ref h1])), (h1, .inl (cI, 256, .inl C))]) (ws' := [(h0, .inr (0, [.ref h1])), (h1, .inl (cI, 256, .inl C))]) hP hD hS hA [0, 1] [] [0, 1] rfl rfl (by decide) (by decide) rfl (by decide) (va_runV (As := [.int p0, .int 7]) (rest := [.int r_9]) ⟨hx, hb, hml, hown, hts⟩ (kX0_number l D cI cB cL h0 h1 _ C p0 7 r_11 h_10) (cwV 2 hts gX0_nextRoomOf_X0_number rfl rfl rfl (by decide +kernel) ⟨Nat.le_of_ble_eq_true rfl, Nat.le_of_ble_eq_true rfl⟩) (pre_V (ci := 0) (q0 := 0) (T := TX0) (N := 1) hK hE hP hD hS hA [0, 1] rfl (by decide) rfl rfl) rfl rfl hl.1 rfl (lv_room (Nat.le_of_ble_eq_true rfl)) dX0_nextRoomOf_37 ⟨Nat.le_of_ble_eq_true rfl, Nat.le_of_ble_eq_true rfl⟩) (fun H locs hP hD hS => ?_)
      obtain ⟨q, h_12, hf⟩ := bd_some hf
      obtain ⟨r_13, rfl⟩ : ∃ z, z = q := ⟨_, rfl⟩
      try dsimp only at hf
      refine cl_i (ws := [(h0, .inr (0, [.ref h1])), (h1, .inl (cI, 256, .inl C))]) (wc := []) (wr := [(h0, .inr (0, [.ref h1])), (h1, .inl (cI, 256, .inl C))]) (w1 := []) (ws' := [(h0, .inr (0, [.ref h1])), (h1, .inl (cI, 256, .inl C))]) hP hD hS hA [] [0, 1] [0, 1] rfl rfl (by decide) (by decide) rfl (by decide) (va_runS (As := [.int r_9, .int r_11]) (rest := []) ⟨hx, hb, hml, hown, hts⟩ (kX0_stepAlongRow l D cI cB cL _ r_9 r_11 r_13 h_12) (va_cwS 2 hts gX0_nextRoomOf_X0_stepAlongRow rfl rfl rfl (by decide +kernel) ⟨Nat.le_of_ble_eq_true rfl, Nat.le_of_ble_eq_true rfl⟩) (pre_S hK hE hP hD hS hA [] rfl (by decide)) rfl rfl hl.1 rfl (lv_room (Nat.le_of_ble_eq_true rfl)) dX0_nextRoomOf_40 ⟨Nat.le_of_ble_eq_true rfl, Nat.le_of_ble_eq_true rfl⟩) (fun H locs hP hD hS => ?_)
      refine lv_istore_n (lv' := [(3, .int r_13), (2, .int r_5), (0, .ref h0), (1, .int p0)]) hx hb dX0_nextRoomOf_43 rfl hl (by decide) rfl (fun ls hl => ?_)
      refine lv_aload_n hx hb dX0_nextRoomOf_44 rfl (lv_at hl 2 rfl) ?_
      refine lv_iload_n hx hb dX0_nextRoomOf_45 rfl (lv_at hl 3 rfl) ?_
      refine lv_bipush (v := 9) hx hb dX0_nextRoomOf_46 (by decide) ?_
      obtain ⟨q, h_14, hf⟩ := bd_some hf
      obtain ⟨r_15, rfl⟩ : ∃ z, z = q := ⟨_, rfl⟩
      try dsimp only at hf
      refine cl_i (ws := [(h0, .inr (0, [.ref h1])), (h1, .inl (cI, 256, .inl C))]) (wc := [(h0, .inr (0, [.ref h1])), (h1, .inl (cI, 256, .inl C))]) (wr := []) (w1 := [(h0, .inr (0, [.ref h1])), (h1, .inl (cI, 256, .inl C))]) (ws' := [(h0, .inr (0, [.ref h1])), (h1, .inl (cI, 256, .inl C))]) hP hD hS hA [0, 1] [] [0, 1] rfl rfl (by decide) (by decide) rfl (by decide) (va_runV (As := [.int p0, .int 9]) (rest := []) ⟨hx, hb, hml, hown, hts⟩ (kX0_number l D cI cB cL h0 h1 _ C p0 9 r_15 h_14) (cwV 2 hts gX0_nextRoomOf_X0_number rfl rfl rfl (by decide +kernel) ⟨Nat.le_of_ble_eq_true rfl, Nat.le_of_ble_eq_true rfl⟩) (pre_V (ci := 0) (q0 := 0) (T := TX0) (N := 1) hK hE hP hD hS hA [0, 1] rfl (by decide) rfl rfl) rfl rfl hl.1 rfl (lv_room (Nat.le_of_ble_eq_true rfl)) dX0_nextRoomOf_48 ⟨Nat.le_of_ble_eq_true rfl, Nat.le_of_ble_eq_true rfl⟩) (fun H locs hP hD hS => ?_)
      refine lv_aload_n hx hb dX0_nextRoomOf_51 rfl (lv_at hl 2 rfl) ?_
      refine lv_iload_n hx hb dX0_nextRoomOf_52 rfl (lv_at hl 3 rfl) ?_
      refine lv_bipush (v := 7) hx hb dX0_nextRoomOf_53 (by decide) ?_
      obtain ⟨q, h_16, hf⟩ := bd_some hf
      obtain ⟨r_17, rfl⟩ : ∃ z, z = q := ⟨_, rfl⟩
      try dsimp only at hf
      refine cl_i (ws := [(h0, .inr (0, [.ref h1])), (h1, .inl (cI, 256, .inl C))]) (wc := [(h0, .inr (0, [.ref h1])), (h1, .inl (cI, 256, .inl C))]) (wr := []) (w1 := [(h0, .inr (0, [.ref h1])), (h1, .inl (cI, 256, .inl C))]) (ws' := [(h0, .inr (0, [.ref h1])), (h1, .inl (cI, 256, .inl C))]) hP hD hS hA [0, 1] [] [0, 1] rfl rfl (by decide) (by decide) rfl (by decide) (va_runV (As := [.int p0, .int 7]) (rest := [.int r_15]) ⟨hx, hb, hml, hown, hts⟩ (kX0_number l D cI cB cL h0 h1 _ C p0 7 r_17 h_16) (cwV 2 hts gX0_nextRoomOf_X0_number rfl rfl rfl (by decide +kernel) ⟨Nat.le_of_ble_eq_true rfl, Nat.le_of_ble_eq_true rfl⟩) (pre_V (ci := 0) (q0 := 0) (T := TX0) (N := 1) hK hE hP hD hS hA [0, 1] rfl (by decide) rfl rfl) rfl rfl hl.1 rfl (lv_room (Nat.le_of_ble_eq_true rfl)) dX0_nextRoomOf_55 ⟨Nat.le_of_ble_eq_true rfl, Nat.le_of_ble_eq_true rfl⟩) (fun H locs hP hD hS => ?_)
      obtain ⟨q, h_18, hf⟩ := bd_some hf
      obtain ⟨r_19, rfl⟩ : ∃ z, z = q := ⟨_, rfl⟩
      try dsimp only at hf
      refine cl_i (ws := [(h0, .inr (0, [.ref h1])), (h1, .inl (cI, 256, .inl C))]) (wc := []) (wr := [(h0, .inr (0, [.ref h1])), (h1, .inl (cI, 256, .inl C))]) (w1 := []) (ws' := [(h0, .inr (0, [.ref h1])), (h1, .inl (cI, 256, .inl C))]) hP hD hS hA [] [0, 1] [0, 1] rfl rfl (by decide) (by decide) rfl (by decide) (va_runS (As := [.int r_15, .int r_17]) (rest := []) ⟨hx, hb, hml, hown, hts⟩ (kX0_stepAlongColumn l D cI cB cL _ r_15 r_17 r_19 h_18) (va_cwS 2 hts gX0_nextRoomOf_X0_stepAlongColumn rfl rfl rfl (by decide +kernel) ⟨Nat.le_of_ble_eq_true rfl, Nat.le_of_ble_eq_true rfl⟩) (pre_S hK hE hP hD hS hA [] rfl (by decide)) rfl rfl hl.1 rfl (lv_room (Nat.le_of_ble_eq_true rfl)) dX0_nextRoomOf_58 ⟨Nat.le_of_ble_eq_true rfl, Nat.le_of_ble_eq_true rfl⟩) (fun H locs hP hD hS => ?_)
      refine lv_istore (lv' := [(4, .int r_19), (3, .int r_13), (2, .int r_5), (0, .ref h0), (1, .int p0)]) hx hb dX0_nextRoomOf_61 hl (by decide) rfl (fun ls hl => ?_)
      refine lv_aload_n hx hb dX0_nextRoomOf_63 rfl (lv_at hl 3 rfl) ?_
      refine va_get (D := D) (ci := 0) (v := .ref h1) (C := RX0) (T := TX0) (N := 1) hx hb hts iX0 hown hK hP 0 rfl rfl 0 (by decide) (hts (.fieldLink RX0 9 "LongCaterpillars$House" "cells" "[I") (List.mem_of_getElem? (i := 1) rfl)) (fun _ h9 => h9) rfl dX0_nextRoomOf_64 ?_
      refine lv_iconst (v := 1) hx hb dX0_nextRoomOf_67 (by decide) ?_
      refine x_iald hx hb hK hP 1 0 rfl rfl (vl rfl) 1 rfl dX0_nextRoomOf_68 ?_
      refine lv_iconst (v := 1) hx hb dX0_nextRoomOf_69 (by decide) ?_
      refine lv_icmp_eq (tgt := 100) hx hb dX0_nextRoomOf_70 (by decide) (fun c_20 => ?_) (fun c_20 => ?_)
      · have hf := br_pos c_20 hf
        exact g100  r_13 r_19 _ _ _ hf hP hD hS (lv_sub hl [1, 0] rfl)
      · have hf := br_neg c_20 hf
        refine lv_aload_n hx hb dX0_nextRoomOf_73 rfl (lv_at hl 3 rfl) ?_
        refine va_get (D := D) (ci := 0) (v := .ref h1) (C := RX0) (T := TX0) (N := 1) hx hb hts iX0 hown hK hP 0 rfl rfl 0 (by decide) (hts (.fieldLink RX0 9 "LongCaterpillars$House" "cells" "[I") (List.mem_of_getElem? (i := 1) rfl)) (fun _ h9 => h9) rfl dX0_nextRoomOf_74 ?_
        refine lv_iconst (v := 1) hx hb dX0_nextRoomOf_77 (by decide) ?_
        refine x_iald hx hb hK hP 1 0 rfl rfl (vl rfl) 1 rfl dX0_nextRoomOf_78 ?_
        refine lv_iconst (v := 2) hx hb dX0_nextRoomOf_79 (by decide) ?_
        refine lv_icmp_ne (tgt := 104) hx hb dX0_nextRoomOf_80 (by decide) (fun c_21 => ?_) (fun c_21 => ?_)
        · have hf := br_neg c_21 hf
          exact g104  r_13 r_19 _ _ _ hf hP hD hS (lv_sub hl [1, 0] rfl)
        · have hf := br_pos c_21 hf
          refine lv_aload_n hx hb dX0_nextRoomOf_83 rfl (lv_at hl 3 rfl) ?_
          refine lv_iload_n hx hb dX0_nextRoomOf_84 rfl (lv_at hl 1 rfl) ?_
          obtain ⟨q, h_22, hf⟩ := bd_some hf
          obtain ⟨r_23, rfl⟩ : ∃ z, z = q := ⟨_, rfl⟩
          try dsimp only at hf
          refine cl_i (ws := [(h0, .inr (0, [.ref h1])), (h1, .inl (cI, 256, .inl C))]) (wc := [(h0, .inr (0, [.ref h1])), (h1, .inl (cI, 256, .inl C))]) (wr := []) (w1 := [(h0, .inr (0, [.ref h1])), (h1, .inl (cI, 256, .inl C))]) (ws' := [(h0, .inr (0, [.ref h1])), (h1, .inl (cI, 256, .inl C))]) hP hD hS hA [0, 1] [] [0, 1] rfl rfl (by decide) (by decide) rfl (by decide) (va_runV (As := [.int r_13]) (rest := []) ⟨hx, hb, hml, hown, hts⟩ (kX0_isFree l D cI cB cL h0 h1 _ C r_13 r_23 h_22) (cwV 1 hts gX0_nextRoomOf_X0_isFree rfl rfl rfl (by decide +kernel) ⟨Nat.le_of_ble_eq_true rfl, Nat.le_of_ble_eq_true rfl⟩) (pre_V (ci := 0) (q0 := 0) (T := TX0) (N := 1) hK hE hP hD hS hA [0, 1] rfl (by decide) rfl rfl) rfl rfl hl.1 rfl (lv_room (Nat.le_of_ble_eq_true rfl)) dX0_nextRoomOf_85 ⟨Nat.le_of_ble_eq_true rfl, Nat.le_of_ble_eq_true rfl⟩) (fun H locs hP hD hS => ?_)
          refine lv_if_ne (tgt := 104) hx hb dX0_nextRoomOf_88 (by decide) (fun c_24 => ?_) (fun c_24 => ?_)
          · have hf := br_neg c_24 hf
            exact g104  r_13 r_19 _ _ _ hf hP hD hS (lv_sub hl [1, 0] rfl)
          · have hf := br_pos c_24 hf
            refine lv_aload_n hx hb dX0_nextRoomOf_91 rfl (lv_at hl 3 rfl) ?_
            refine lv_iload hx hb dX0_nextRoomOf_92 (lv_at hl 0 rfl) ?_
            obtain ⟨q, h_25, hf⟩ := bd_some hf
            obtain ⟨r_26, rfl⟩ : ∃ z, z = q := ⟨_, rfl⟩
            try dsimp only at hf
            refine cl_i (ws := [(h0, .inr (0, [.ref h1])), (h1, .inl (cI, 256, .inl C))]) (wc := [(h0, .inr (0, [.ref h1])), (h1, .inl (cI, 256, .inl C))]) (wr := []) (w1 := [(h0, .inr (0, [.ref h1])), (h1, .inl (cI, 256, .inl C))]) (ws' := [(h0, .inr (0, [.ref h1])), (h1, .inl (cI, 256, .inl C))]) hP hD hS hA [0, 1] [] [0, 1] rfl rfl (by decide) (by decide) rfl (by decide) (va_runV (As := [.int r_19]) (rest := []) ⟨hx, hb, hml, hown, hts⟩ (kX0_isFree l D cI cB cL h0 h1 _ C r_19 r_26 h_25) (cwV 1 hts gX0_nextRoomOf_X0_isFree rfl rfl rfl (by decide +kernel) ⟨Nat.le_of_ble_eq_true rfl, Nat.le_of_ble_eq_true rfl⟩) (pre_V (ci := 0) (q0 := 0) (T := TX0) (N := 1) hK hE hP hD hS hA [0, 1] rfl (by decide) rfl rfl) rfl rfl hl.1 rfl (lv_room (Nat.le_of_ble_eq_true rfl)) dX0_nextRoomOf_94 ⟨Nat.le_of_ble_eq_true rfl, Nat.le_of_ble_eq_true rfl⟩) (fun H locs hP hD hS => ?_)
            refine lv_if_eq (tgt := 104) hx hb dX0_nextRoomOf_97 (by decide) (fun c_27 => ?_) (fun c_27 => ?_)
            · have hf := br_pos c_27 hf
              exact g104  r_13 r_19 _ _ _ hf hP hD hS (lv_sub hl [1, 0] rfl)
            · have hf := br_neg c_27 hf
              exact g100  r_13 r_19 _ _ _ hf hP hD hS (lv_sub hl [1, 0] rfl)
    · have hf := br_neg c_7 hf
      refine lv_iconst (v := (-1)) hx hb dX0_nextRoomOf_24 (by decide) ?_
      cases hf
      exact rt_i hQ hx hb hr hlocks hP hD hS dX0_nextRoomOf_25
  · have hf := br_pos c_6 hf
    refine lv_aload_n hx hb dX0_nextRoomOf_11 rfl (lv_at hl 1 rfl) ?_
    refine lv_iload_n hx hb dX0_nextRoomOf_12 rfl (lv_at hl 2 rfl) ?_
    refine lv_bipush (v := 6) hx hb dX0_nextRoomOf_13 (by decide) ?_
    obtain ⟨q, h_28, hf⟩ := bd_some hf
    obtain ⟨r_29, rfl⟩ : ∃ z, z = q := ⟨_, rfl⟩
    try dsimp only at hf
    refine cl_i (ws := [(h0, .inr (0, [.ref h1])), (h1, .inl (cI, 256, .inl C))]) (wc := [(h0, .inr (0, [.ref h1])), (h1, .inl (cI, 256, .inl C))]) (wr := []) (w1 := [(h0, .inr (0, [.ref h1])), (h1, .inl (cI, 256, .inl C))]) (ws' := [(h0, .inr (0, [.ref h1])), (h1, .inl (cI, 256, .inl C))]) hP hD hS hA [0, 1] [] [0, 1] rfl rfl (by decide) (by decide) rfl (by decide) (va_runV (As := [.int p0, .int 6]) (rest := []) ⟨hx, hb, hml, hown, hts⟩ (kX0_number l D cI cB cL h0 h1 _ C p0 6 r_29 h_28) (cwV 2 hts gX0_nextRoomOf_X0_number rfl rfl rfl (by decide +kernel) ⟨Nat.le_of_ble_eq_true rfl, Nat.le_of_ble_eq_true rfl⟩) (pre_V (ci := 0) (q0 := 0) (T := TX0) (N := 1) hK hE hP hD hS hA [0, 1] rfl (by decide) rfl rfl) rfl rfl hl.1 rfl (lv_room (Nat.le_of_ble_eq_true rfl)) dX0_nextRoomOf_15 ⟨Nat.le_of_ble_eq_true rfl, Nat.le_of_ble_eq_true rfl⟩) (fun H locs hP hD hS => ?_)
    cases hf
    exact rt_i hQ hx hb hr hlocks hP hD hS dX0_nextRoomOf_18
abbrev rmX0_blockerOf : Room := ({ frames := 3, cells := 0, slots := 0, locals := 47 })
set_option maxHeartbeats 4000000 in
set_option maxRecDepth 100000 in
theorem kX0_blockerOf (l : Launch) (D : va_G) (cI cB cL : ClassId) (h0 : Nat) (h1 : Nat) (sz : Nat) (C : Nat → Int32) (p0 : Int32) (w : Int32) (hf : fX0_blockerOf C p0 = some w) : Met l yX0_blockerOf wsX0_blockerOf rmX0_blockerOf (mPc D (tyK cI cB cL) [.ref h0, .int p0] sz [(h0, .inr (0, [.ref h1])), (h1, .inl (cI, 256, .inl C))]) (mQi D w [(h0, .inr (0, [.ref h1])), (h1, .inl (cI, 256, .inl C))] (va_A [(h0, .inr (0, [.ref h1])), (h1, .inl (cI, 256, .inl C))] sz)) 0 0 (va_A [(h0, .inr (0, [.ref h1])), (h1, .inl (cI, 256, .inl C))] sz) := by
  refine m_of (Qf := mQi D w [(h0, .inr (0, [.ref h1])), (h1, .inl (cI, 256, .inl C))]) (cc := cX0_blockerOf) (maxL := 2) (ret := (some .int)) (by decide) rfl (Nat.le_of_ble_eq_true rfl) ?_
  intro p e s m args below meth c A ls hsz hx hb hr hml hown hts hlocks hP hK hD hS hA hE hin hl Q hQ
  subst hsz
  have hl : lv_has ls 2 [(0, .ref h0), (1, .int p0)] := hl
  have hown : s.vm.findClass RX0 = some m.cls := hown
  unfold fX0_blockerOf at hf
  refine lv_aload_n hx hb dX0_blockerOf_0 rfl (lv_at hl 0 rfl) ?_
  refine lv_aload_n hx hb dX0_blockerOf_1 rfl (lv_at hl 0 rfl) ?_
  refine lv_iload_n hx hb dX0_blockerOf_2 rfl (lv_at hl 1 rfl) ?_
  obtain ⟨q, h_1, hf⟩ := bd_some hf
  obtain ⟨r_2, rfl⟩ : ∃ z, z = q := ⟨_, rfl⟩
  try dsimp only at hf
  refine cl_i (ws := [(h0, .inr (0, [.ref h1])), (h1, .inl (cI, 256, .inl C))]) (wc := [(h0, .inr (0, [.ref h1])), (h1, .inl (cI, 256, .inl C))]) (wr := []) (w1 := [(h0, .inr (0, [.ref h1])), (h1, .inl (cI, 256, .inl C))]) (ws' := [(h0, .inr (0, [.ref h1])), (h1, .inl (cI, 256, .inl C))]) hP hD hS hA [0, 1] [] [0, 1] rfl rfl (by decide) (by decide) rfl (by decide) (va_runV (As := [.int p0]) (rest := [.ref h0]) ⟨hx, hb, hml, hown, hts⟩ (kX0_nextRoomOf l D cI cB cL h0 h1 _ C p0 r_2 h_1) (cwV 1 hts gX0_blockerOf_X0_nextRoomOf rfl rfl rfl (by decide +kernel) ⟨Nat.le_of_ble_eq_true rfl, Nat.le_of_ble_eq_true rfl⟩) (pre_V (ci := 0) (q0 := 0) (T := TX0) (N := 1) hK hE hP hD hS hA [0, 1] rfl (by decide) rfl rfl) rfl rfl hl.1 rfl (lv_room (Nat.le_of_ble_eq_true rfl)) dX0_blockerOf_3 ⟨Nat.le_of_ble_eq_true rfl, Nat.le_of_ble_eq_true rfl⟩) (fun H locs hP hD hS => ?_)
  obtain ⟨q, h_3, hf⟩ := bd_some hf
  obtain ⟨r_4, rfl⟩ : ∃ z, z = q := ⟨_, rfl⟩
  try dsimp only at hf
  refine cl_i (ws := [(h0, .inr (0, [.ref h1])), (h1, .inl (cI, 256, .inl C))]) (wc := [(h0, .inr (0, [.ref h1])), (h1, .inl (cI, 256, .inl C))]) (wr := []) (w1 := [(h0, .inr (0, [.ref h1])), (h1, .inl (cI, 256, .inl C))]) (ws' := [(h0, .inr (0, [.ref h1])), (h1, .inl (cI, 256, .inl C))]) hP hD hS hA [0, 1] [] [0, 1] rfl rfl (by decide) (by decide) rfl (by decide) (va_runV (As := [.int r_2]) (rest := []) ⟨hx, hb, hml, hown, hts⟩ (kX0_takerOf l D cI cB cL h0 h1 _ C r_2 r_4 h_3) (cwV 1 hts gX0_blockerOf_X0_takerOf rfl rfl rfl (by decide +kernel) ⟨Nat.le_of_ble_eq_true rfl, Nat.le_of_ble_eq_true rfl⟩) (pre_V (ci := 0) (q0 := 0) (T := TX0) (N := 1) hK hE hP hD hS hA [0, 1] rfl (by decide) rfl rfl) rfl rfl hl.1 rfl (lv_room (Nat.le_of_ble_eq_true rfl)) dX0_blockerOf_6 ⟨Nat.le_of_ble_eq_true rfl, Nat.le_of_ble_eq_true rfl⟩) (fun H locs hP hD hS => ?_)
  cases hf
  exact rt_i hQ hx hb hr hlocks hP hD hS dX0_blockerOf_9
abbrev rmX0_ringSizeOf : Room := ({ frames := 4, cells := 0, slots := 0, locals := 68 })
set_option maxHeartbeats 4000000 in
set_option maxRecDepth 100000 in
theorem kX0_ringSizeOf (l : Launch) (D : va_G) (cI cB cL : ClassId) (h0 : Nat) (h1 : Nat) (sz : Nat) (C : Nat → Int32) (p0 : Int32) (w : Int32) (hf : fX0_ringSizeOf C p0 = some w) : Met l yX0_ringSizeOf wsX0_ringSizeOf rmX0_ringSizeOf (mPc D (tyK cI cB cL) [.ref h0, .int p0] sz [(h0, .inr (0, [.ref h1])), (h1, .inl (cI, 256, .inl C))]) (mQi D w [(h0, .inr (0, [.ref h1])), (h1, .inl (cI, 256, .inl C))] (va_A [(h0, .inr (0, [.ref h1])), (h1, .inl (cI, 256, .inl C))] sz)) 0 0 (va_A [(h0, .inr (0, [.ref h1])), (h1, .inl (cI, 256, .inl C))] sz) := by
  refine m_of (Qf := mQi D w [(h0, .inr (0, [.ref h1])), (h1, .inl (cI, 256, .inl C))]) (cc := cX0_ringSizeOf) (maxL := 4) (ret := (some .int)) (by decide) rfl (Nat.le_of_ble_eq_true rfl) ?_
  intro p e s m args below meth c A ls hsz hx hb hr hml hown hts hlocks hP hK hD hS hA hE hin hl Q hQ
  subst hsz
  have hl : lv_has ls 4 [(0, .ref h0), (1, .int p0)] := hl
  have hown : s.vm.findClass RX0 = some m.cls := hown
  have hl0 := hl
  have g4 : ∀ (n : Nat) (v2 : Int32) (v3 : Int32) (H : Heap) (locs : List Loc) (ls : Array Slot), fX0_ringSizeOf_4 C p0 n v2 v3 = some w → va_P D vwCl [(h0, .inr (0, [.ref h1])), (h1, .inl (cI, 256, .inl C))] H → va_D A [(h0, .inr (0, [.ref h1])), (h1, .inl (cI, 256, .inl C))] → va_S A s.heap H locs → lv_has ls 4 [(0, .ref h0), (1, .int p0), (2, .int v2), (3, .int v3)] → W p l e rmX0_ringSizeOf s m args below meth c H locs 0 0 Q (F0 m 4 ls []) := by
    intro  n
    induction n with
    | zero =>
      intro v2 v3 H locs ls hf
      exact absurd hf (by rw [fX0_ringSizeOf_4]; simp)
    | succ n ih =>
      intro v2 v3 H locs ls hf hP hD hS hl
      rw [fX0_ringSizeOf_4] at hf
      refine lv_iload_n hx hb dX0_ringSizeOf_4 rfl (lv_at hl 3 rfl) ?_
      refine lv_bipush (v := 10) hx hb dX0_ringSizeOf_5 (by decide) ?_
      refine lv_icmp_gt (tgt := 36) hx hb dX0_ringSizeOf_7 (by decide) (fun c_1 => ?_) (fun c_1 => ?_)
      · have hf := br_pos c_1 hf
        refine lv_iconst (v := 0) hx hb dX0_ringSizeOf_36 (by decide) ?_
        cases hf
        exact rt_i hQ hx hb hr hlocks hP hD hS dX0_ringSizeOf_37
      · have hf := br_neg c_1 hf
        refine lv_aload_n hx hb dX0_ringSizeOf_10 rfl (lv_at hl 0 rfl) ?_
        refine lv_iload_n hx hb dX0_ringSizeOf_11 rfl (lv_at hl 2 rfl) ?_
        obtain ⟨q, h_2, hf⟩ := bd_some hf
        obtain ⟨r_3, rfl⟩ : ∃ z, z = q := ⟨_, rfl⟩
        try dsimp only at hf
        refine cl_i (ws := [(h0, .inr (0, [.ref h1])), (h1, .inl (cI, 256, .inl C))]) (wc := [(h0, .inr (0, [.ref h1])), (h1, .inl (cI, 256, .inl C))]) (wr := []) (w1 := [(h0, .inr (0, [.ref h1])), (h1, .inl (cI, 256, .inl C))]) (ws' := [(h0, .inr (0, [.ref h1])), (h1, .inl (cI, 256, .inl C))]) hP hD hS hA [0, 1] [] [0, 1] rfl rfl (by decide) (by decide) rfl (by decide) (va_runV (As := [.int v2]) (rest := []) ⟨hx, hb, hml, hown, hts⟩ (kX0_blockerOf l D cI cB cL h0 h1 _ C v2 r_3 h_2) (cwV 1 hts gX0_ringSizeOf_X0_blockerOf rfl rfl rfl (by decide +kernel) ⟨Nat.le_of_ble_eq_true rfl, Nat.le_of_ble_eq_true rfl⟩) (pre_V (ci := 0) (q0 := 0) (T := TX0) (N := 1) hK hE hP hD hS hA [0, 1] rfl (by decide) rfl rfl) rfl rfl hl.1 rfl (lv_room (Nat.le_of_ble_eq_true rfl)) dX0_ringSizeOf_12 ⟨Nat.le_of_ble_eq_true rfl, Nat.le_of_ble_eq_true rfl⟩) (fun H locs hP hD hS => ?_)
        refine lv_istore_n (lv' := [(2, .int r_3), (0, .ref h0), (1, .int p0), (3, .int v3)]) hx hb dX0_ringSizeOf_15 rfl hl (by decide) rfl (fun ls hl => ?_)
        refine lv_iload_n hx hb dX0_ringSizeOf_16 rfl (lv_at hl 0 rfl) ?_
        refine lv_iconst (v := (-1)) hx hb dX0_ringSizeOf_17 (by decide) ?_
        refine lv_icmp_ne (tgt := 23) hx hb dX0_ringSizeOf_18 (by decide) (fun c_4 => ?_) (fun c_4 => ?_)
        · have hf := br_neg c_4 hf
          refine lv_iload_n hx hb dX0_ringSizeOf_23 rfl (lv_at hl 0 rfl) ?_
          refine lv_iload_n hx hb dX0_ringSizeOf_24 rfl (lv_at hl 2 rfl) ?_
          refine lv_icmp_ne (tgt := 30) hx hb dX0_ringSizeOf_25 (by decide) (fun c_5 => ?_) (fun c_5 => ?_)
          · have hf := br_neg c_5 hf
            refine lv_iinc (v := (v3 + 1)) (lv' := [(3, .int (v3 + 1)), (2, .int r_3), (0, .ref h0), (1, .int p0)]) hx hb dX0_ringSizeOf_30 hl (k := 3) rfl rfl (by decide) rfl (fun ls hl => ?_)
            refine lv_goto (tgt := 4) hx hb dX0_ringSizeOf_33 (by decide) ?_
            exact ih r_3 (v3 + 1) _ _ _ hf hP hD hS (lv_sub hl [2, 3, 1, 0] rfl)
          · have hf := br_pos c_5 hf
            refine lv_iload_n hx hb dX0_ringSizeOf_28 rfl (lv_at hl 3 rfl) ?_
            cases hf
            exact rt_i hQ hx hb hr hlocks hP hD hS dX0_ringSizeOf_29
        · have hf := br_pos c_4 hf
          refine lv_iconst (v := 0) hx hb dX0_ringSizeOf_21 (by decide) ?_
          cases hf
          exact rt_i hQ hx hb hr hlocks hP hD hS dX0_ringSizeOf_22
  unfold fX0_ringSizeOf at hf
  refine lv_iload_n hx hb dX0_ringSizeOf_0 rfl (lv_at hl 1 rfl) ?_
  refine lv_istore_n (lv' := [(2, .int p0), (0, .ref h0), (1, .int p0)]) hx hb dX0_ringSizeOf_1 rfl hl (by decide) rfl (fun ls hl => ?_)
  refine lv_iconst (v := 1) hx hb dX0_ringSizeOf_2 (by decide) ?_
  refine lv_istore_n (lv' := [(3, .int 1), (2, .int p0), (0, .ref h0), (1, .int p0)]) hx hb dX0_ringSizeOf_3 rfl hl (by decide) rfl (fun ls hl => ?_)
  exact g4  5000 p0 1 _ _ _ hf hP hD hS (lv_sub hl [2, 3, 1, 0] rfl)
abbrev rmX0_lowestInRing : Room := ({ frames := 5, cells := 0, slots := 0, locals := 91 })
set_option maxHeartbeats 4000000 in
set_option maxRecDepth 100000 in
theorem kX0_lowestInRing (l : Launch) (D : va_G) (cI cB cL : ClassId) (h0 : Nat) (h1 : Nat) (sz : Nat) (C : Nat → Int32) (w : Int32) (hf : fX0_lowestInRing C = some w) : Met l yX0_lowestInRing wsX0_lowestInRing rmX0_lowestInRing (mPc D (tyK cI cB cL) [.ref h0] sz [(h0, .inr (0, [.ref h1])), (h1, .inl (cI, 256, .inl C))]) (mQi D w [(h0, .inr (0, [.ref h1])), (h1, .inl (cI, 256, .inl C))] (va_A [(h0, .inr (0, [.ref h1])), (h1, .inl (cI, 256, .inl C))] sz)) 0 0 (va_A [(h0, .inr (0, [.ref h1])), (h1, .inl (cI, 256, .inl C))] sz) := by
  refine m_of (Qf := mQi D w [(h0, .inr (0, [.ref h1])), (h1, .inl (cI, 256, .inl C))]) (cc := cX0_lowestInRing) (maxL := 2) (ret := (some .int)) (by decide) rfl (Nat.le_of_ble_eq_true rfl) ?_
  intro p e s m args below meth c A ls hsz hx hb hr hml hown hts hlocks hP hK hD hS hA hE hin hl Q hQ
  subst hsz
  have hl : lv_has ls 2 [(0, .ref h0)] := hl
  have hown : s.vm.findClass RX0 = some m.cls := hown
  have hl0 := hl
  have g2 : ∀ (n : Nat) (v1 : Int32) (H : Heap) (locs : List Loc) (ls : Array Slot), fX0_lowestInRing_2 C n v1 = some w → va_P D vwCl [(h0, .inr (0, [.ref h1])), (h1, .inl (cI, 256, .inl C))] H → va_D A [(h0, .inr (0, [.ref h1])), (h1, .inl (cI, 256, .inl C))] → va_S A s.heap H locs → lv_has ls 2 [(0, .ref h0), (1, .int v1)] → W p l e rmX0_lowestInRing s m args below meth c H locs 0 0 Q (F0 m 2 ls []) := by
    intro  n
    induction n with
    | zero =>
      intro v1 H locs ls hf
      exact absurd hf (by rw [fX0_lowestInRing_2]; simp)
    | succ n ih =>
      intro v1 H locs ls hf hP hD hS hl
      rw [fX0_lowestInRing_2] at hf
      refine lv_iload_n hx hb dX0_lowestInRing_2 rfl (lv_at hl 1 rfl) ?_
      refine lv_bipush (v := 10) hx hb dX0_lowestInRing_3 (by decide) ?_
      refine lv_icmp_ge (tgt := 24) hx hb dX0_lowestInRing_5 (by decide) (fun c_1 => ?_) (fun c_1 => ?_)
      · have hf := br_pos c_1 hf
        refine lv_iconst (v := (-1)) hx hb dX0_lowestInRing_24 (by decide) ?_
        cases hf
        exact rt_i hQ hx hb hr hlocks hP hD hS dX0_lowestInRing_25
      · have hf := br_neg c_1 hf
        refine lv_aload_n hx hb dX0_lowestInRing_8 rfl (lv_at hl 0 rfl) ?_
        refine lv_iload_n hx hb dX0_lowestInRing_9 rfl (lv_at hl 1 rfl) ?_
        obtain ⟨q, h_2, hf⟩ := bd_some hf
        obtain ⟨r_3, rfl⟩ : ∃ z, z = q := ⟨_, rfl⟩
        try dsimp only at hf
        refine cl_i (ws := [(h0, .inr (0, [.ref h1])), (h1, .inl (cI, 256, .inl C))]) (wc := [(h0, .inr (0, [.ref h1])), (h1, .inl (cI, 256, .inl C))]) (wr := []) (w1 := [(h0, .inr (0, [.ref h1])), (h1, .inl (cI, 256, .inl C))]) (ws' := [(h0, .inr (0, [.ref h1])), (h1, .inl (cI, 256, .inl C))]) hP hD hS hA [0, 1] [] [0, 1] rfl rfl (by decide) (by decide) rfl (by decide) (va_runV (As := [.int v1]) (rest := []) ⟨hx, hb, hml, hown, hts⟩ (kX0_ringSizeOf l D cI cB cL h0 h1 _ C v1 r_3 h_2) (cwV 1 hts gX0_lowestInRing_X0_ringSizeOf rfl rfl rfl (by decide +kernel) ⟨Nat.le_of_ble_eq_true rfl, Nat.le_of_ble_eq_true rfl⟩) (pre_V (ci := 0) (q0 := 0) (T := TX0) (N := 1) hK hE hP hD hS hA [0, 1] rfl (by decide) rfl rfl) rfl rfl hl.1 rfl (lv_room (Nat.le_of_ble_eq_true rfl)) dX0_lowestInRing_10 ⟨Nat.le_of_ble_eq_true rfl, Nat.le_of_ble_eq_true rfl⟩) (fun H locs hP hD hS => ?_)
        refine lv_if_le (tgt := 18) hx hb dX0_lowestInRing_13 (by decide) (fun c_4 => ?_) (fun c_4 => ?_)
        · have hf := br_pos c_4 hf
          refine lv_iinc (v := (v1 + 1)) (lv' := [(1, .int (v1 + 1)), (0, .ref h0)]) hx hb dX0_lowestInRing_18 hl (k := 1) rfl rfl (by decide) rfl (fun ls hl => ?_)
          refine lv_goto (tgt := 2) hx hb dX0_lowestInRing_21 (by decide) ?_
          exact ih (v1 + 1) _ _ _ hf hP hD hS (lv_sub hl [1, 0] rfl)
        · have hf := br_neg c_4 hf
          refine lv_iload_n hx hb dX0_lowestInRing_16 rfl (lv_at hl 1 rfl) ?_
          cases hf
          exact rt_i hQ hx hb hr hlocks hP hD hS dX0_lowestInRing_17
  unfold fX0_lowestInRing at hf
  refine lv_iconst (v := 0) hx hb dX0_lowestInRing_0 (by decide) ?_
  refine lv_istore_n (lv' := [(1, .int 0), (0, .ref h0)]) hx hb dX0_lowestInRing_1 rfl hl (by decide) rfl (fun ls hl => ?_)
  exact g2  5000 0 _ _ _ hf hP hD hS (lv_sub hl [1, 0] rfl)
abbrev rmX3_isLength : Room := ({ frames := 1, cells := 0, slots := 0, locals := 0 })
set_option maxHeartbeats 4000000 in
set_option maxRecDepth 100000 in
theorem kX3_isLength (l : Launch) (D : va_G) (cI cB cL : ClassId) (sz : Nat) (p0 : Int32) (w : Int32) (hf : fX3_isLength p0 = some w) : Met l yX3_isLength wsX3_isLength rmX3_isLength (mPc D (tyK cI cB cL) [.int p0] sz []) (mQi D w [] (va_A [] sz)) 0 0 (va_A [] sz) := by
  refine m_of (Qf := mQi D w []) (cc := cX3_isLength) (maxL := 1) (ret := (some .boolean)) (by decide) rfl (Nat.le_of_ble_eq_true rfl) ?_
  intro p e s m args below meth c A ls hsz hx hb hr hml hown hts hlocks hP hK hD hS hA hE hin hl Q hQ
  subst hsz
  have hl : lv_has ls 1 [(0, .int p0)] := hl
  have hown : s.vm.findClass RX3 = some m.cls := hown
  unfold fX3_isLength at hf
  refine lv_iload_n hx hb dX3_isLength_0 rfl (lv_at hl 0 rfl) ?_
  refine lv_iconst (v := 1) hx hb dX3_isLength_1 (by decide) ?_
  refine lv_icmp_lt (tgt := 15) hx hb dX3_isLength_2 (by decide) (fun c_1 => ?_) (fun c_1 => ?_)
  · have hf := br_pos c_1 hf
    refine lv_iconst (v := 0) hx hb dX3_isLength_15 (by decide) ?_
    cases hf
    exact rt_z hQ hx hb hr rfl hlocks hP hD hS dX3_isLength_16
  · have hf := br_neg c_1 hf
    refine lv_iload_n hx hb dX3_isLength_5 rfl (lv_at hl 0 rfl) ?_
    refine lv_bipush (v := 9) hx hb dX3_isLength_6 (by decide) ?_
    refine lv_icmp_gt (tgt := 15) hx hb dX3_isLength_8 (by decide) (fun c_2 => ?_) (fun c_2 => ?_)
    · have hf := br_pos c_2 hf
      refine lv_iconst (v := 0) hx hb dX3_isLength_15 (by decide) ?_
      cases hf
      exact rt_z hQ hx hb hr rfl hlocks hP hD hS dX3_isLength_16
    · have hf := br_neg c_2 hf
      refine lv_iconst (v := 1) hx hb dX3_isLength_11 (by decide) ?_
      refine lv_goto (tgt := 16) hx hb dX3_isLength_12 (by decide) ?_
      cases hf
      exact rt_z hQ hx hb hr rfl hlocks hP hD hS dX3_isLength_16
abbrev rmX0_isFull : Room := ({ frames := 1, cells := 0, slots := 0, locals := 0 })
set_option maxHeartbeats 4000000 in
set_option maxRecDepth 100000 in
theorem kX0_isFull (l : Launch) (D : va_G) (cI cB cL : ClassId) (h0 : Nat) (h1 : Nat) (sz : Nat) (C : Nat → Int32) (w : Int32) (hf : fX0_isFull C = some w) : Met l yX0_isFull wsX0_isFull rmX0_isFull (mPc D (tyK cI cB cL) [.ref h0] sz [(h0, .inr (0, [.ref h1])), (h1, .inl (cI, 256, .inl C))]) (mQi D w [(h0, .inr (0, [.ref h1])), (h1, .inl (cI, 256, .inl C))] (va_A [(h0, .inr (0, [.ref h1])), (h1, .inl (cI, 256, .inl C))] sz)) 0 0 (va_A [(h0, .inr (0, [.ref h1])), (h1, .inl (cI, 256, .inl C))] sz) := by
  refine m_of (Qf := mQi D w [(h0, .inr (0, [.ref h1])), (h1, .inl (cI, 256, .inl C))]) (cc := cX0_isFull) (maxL := 1) (ret := (some .boolean)) (by decide) rfl (Nat.le_of_ble_eq_true rfl) ?_
  intro p e s m args below meth c A ls hsz hx hb hr hml hown hts hlocks hP hK hD hS hA hE hin hl Q hQ
  subst hsz
  have hl : lv_has ls 1 [(0, .ref h0)] := hl
  have hown : s.vm.findClass RX0 = some m.cls := hown
  have iX0 : ∀ w ∈ u_ws RX0 TX0 1, w ∈ wsX0_isFull := by decide +kernel
  unfold fX0_isFull at hf
  refine lv_aload_n hx hb dX0_isFull_0 rfl (lv_at hl 0 rfl) ?_
  refine va_get (D := D) (ci := 0) (v := .ref h1) (C := RX0) (T := TX0) (N := 1) hx hb hts iX0 hown hK hP 0 rfl rfl 0 (by decide) (hts (.fieldLink RX0 9 "LongCaterpillars$House" "cells" "[I") (List.mem_of_getElem? (i := 1) rfl)) (fun _ h9 => h9) rfl dX0_isFull_1 ?_
  refine lv_iconst (v := 0) hx hb dX0_isFull_4 (by decide) ?_
  refine x_iald hx hb hK hP 1 0 rfl rfl (vl rfl) 0 rfl dX0_isFull_5 ?_
  refine lv_bipush (v := 10) hx hb dX0_isFull_6 (by decide) ?_
  refine lv_icmp_lt (tgt := 15) hx hb dX0_isFull_8 (by decide) (fun c_1 => ?_) (fun c_1 => ?_)
  · have hf := br_pos c_1 hf
    refine lv_iconst (v := 0) hx hb dX0_isFull_15 (by decide) ?_
    cases hf
    exact rt_z hQ hx hb hr rfl hlocks hP hD hS dX0_isFull_16
  · have hf := br_neg c_1 hf
    refine lv_iconst (v := 1) hx hb dX0_isFull_11 (by decide) ?_
    refine lv_goto (tgt := 16) hx hb dX0_isFull_12 (by decide) ?_
    cases hf
    exact rt_z hQ hx hb hr rfl hlocks hP hD hS dX0_isFull_16
abbrev rmX1_isPlace : Room := ({ frames := 1, cells := 0, slots := 0, locals := 0 })
set_option maxHeartbeats 4000000 in
set_option maxRecDepth 100000 in
theorem kX1_isPlace (l : Launch) (D : va_G) (cI cB cL : ClassId) (sz : Nat) (p0 : Int32) (w : Int32) (hf : fX1_isPlace p0 = some w) : Met l yX1_isPlace wsX1_isPlace rmX1_isPlace (mPc D (tyK cI cB cL) [.int p0] sz []) (mQi D w [] (va_A [] sz)) 0 0 (va_A [] sz) := by
  refine m_of (Qf := mQi D w []) (cc := cX1_isPlace) (maxL := 1) (ret := (some .boolean)) (by decide) rfl (Nat.le_of_ble_eq_true rfl) ?_
  intro p e s m args below meth c A ls hsz hx hb hr hml hown hts hlocks hP hK hD hS hA hE hin hl Q hQ
  subst hsz
  have hl : lv_has ls 1 [(0, .int p0)] := hl
  have hown : s.vm.findClass RX1 = some m.cls := hown
  unfold fX1_isPlace at hf
  refine lv_iload_n hx hb dX1_isPlace_0 rfl (lv_at hl 0 rfl) ?_
  refine lv_if_lt (tgt := 14) hx hb dX1_isPlace_1 (by decide) (fun c_1 => ?_) (fun c_1 => ?_)
  · have hf := br_pos c_1 hf
    refine lv_iconst (v := 0) hx hb dX1_isPlace_14 (by decide) ?_
    cases hf
    exact rt_z hQ hx hb hr rfl hlocks hP hD hS dX1_isPlace_15
  · have hf := br_neg c_1 hf
    refine lv_iload_n hx hb dX1_isPlace_4 rfl (lv_at hl 0 rfl) ?_
    refine lv_bipush (v := 16) hx hb dX1_isPlace_5 (by decide) ?_
    refine lv_icmp_ge (tgt := 14) hx hb dX1_isPlace_7 (by decide) (fun c_2 => ?_) (fun c_2 => ?_)
    · have hf := br_pos c_2 hf
      refine lv_iconst (v := 0) hx hb dX1_isPlace_14 (by decide) ?_
      cases hf
      exact rt_z hQ hx hb hr rfl hlocks hP hD hS dX1_isPlace_15
    · have hf := br_neg c_2 hf
      refine lv_iconst (v := 1) hx hb dX1_isPlace_10 (by decide) ?_
      refine lv_goto (tgt := 15) hx hb dX1_isPlace_11 (by decide) ?_
      cases hf
      exact rt_z hQ hx hb hr rfl hlocks hP hD hS dX1_isPlace_15
abbrev rmX0_writeTo : Room := ({ frames := 2, cells := 0, slots := 0, locals := 64 })
set_option maxHeartbeats 4000000 in
set_option maxRecDepth 100000 in
theorem kX0_writeTo (l : Launch) (D : va_G) (cI cB cL : ClassId) (h0 : Nat) (h1 : Nat) (s0 : Nat) (s1 : Nat) (sz : Nat) (C : Nat → Int32) (G : Nat → Int32) (p1 : Int32) (G' : Nat → Int32) (hf : fX0_writeTo C G p1 = some G') : Met l yX0_writeTo wsX0_writeTo rmX0_writeTo (mPc D (tyK cI cB cL) [.ref h0, .ref s0, .int p1] sz [(h0, .inr (0, [.ref h1])), (h1, .inl (cI, 256, .inl C)), (s0, .inr (1, [.ref s1])), (s1, .inl (cI, 4096, .inl G))]) (mQv D [(h0, .inr (0, [.ref h1])), (h1, .inl (cI, 256, .inl C)), (s0, .inr (1, [.ref s1])), (s1, .inl (cI, 4096, .inl G'))] (va_A [(h0, .inr (0, [.ref h1])), (h1, .inl (cI, 256, .inl C)), (s0, .inr (1, [.ref s1])), (s1, .inl (cI, 4096, .inl G))] sz)) 0 0 (va_A [(h0, .inr (0, [.ref h1])), (h1, .inl (cI, 256, .inl C)), (s0, .inr (1, [.ref s1])), (s1, .inl (cI, 4096, .inl G))] sz) := by
  refine m_of (Qf := mQv D [(h0, .inr (0, [.ref h1])), (h1, .inl (cI, 256, .inl C)), (s0, .inr (1, [.ref s1])), (s1, .inl (cI, 4096, .inl G'))]) (cc := cX0_writeTo) (maxL := 3) (ret := none) (by decide) rfl (Nat.le_of_ble_eq_true rfl) ?_
  intro p e s m args below meth c A ls hsz hx hb hr hml hown hts hlocks hP hK hD hS hA hE hin hl Q hQ
  subst hsz
  have hl : lv_has ls 3 [(0, .ref h0), (1, .ref s0), (2, .int p1)] := hl
  have hown : s.vm.findClass RX0 = some m.cls := hown
  have iX0 : ∀ w ∈ u_ws RX0 TX0 1, w ∈ wsX0_writeTo := by decide +kernel
  have iX1 : ∀ w ∈ u_ws RX1 TX1 1, w ∈ wsX0_writeTo := by decide +kernel
  unfold fX0_writeTo at hf
  refine lv_iload_n hx hb dX0_writeTo_0 rfl (lv_at hl 2 rfl) ?_
  obtain ⟨q, h_1, hf⟩ := bd_some hf
  obtain ⟨r_2, rfl⟩ : ∃ z, z = q := ⟨_, rfl⟩
  try dsimp only at hf
  refine cl_i (ws := [(h0, .inr (0, [.ref h1])), (h1, .inl (cI, 256, .inl C)), (s0, .inr (1, [.ref s1])), (s1, .inl (cI, 4096, .inl G))]) (wc := []) (wr := [(h0, .inr (0, [.ref h1])), (h1, .inl (cI, 256, .inl C)), (s0, .inr (1, [.ref s1])), (s1, .inl (cI, 4096, .inl G))]) (w1 := []) (ws' := [(h0, .inr (0, [.ref h1])), (h1, .inl (cI, 256, .inl C)), (s0, .inr (1, [.ref s1])), (s1, .inl (cI, 4096, .inl G))]) hP hD hS hA [] [0, 1, 2, 3] [0, 1, 2, 3] rfl rfl (by decide) (by decide) rfl (by decide) (va_runS (As := [.int p1]) (rest := []) ⟨hx, hb, hml, hown, hts⟩ (kX1_isPlace l D cI cB cL _ p1 r_2 h_1) (va_cwS 1 hts gX0_writeTo_X1_isPlace rfl rfl rfl (by decide +kernel) ⟨Nat.le_of_ble_eq_true rfl, Nat.le_of_ble_eq_true rfl⟩) (pre_S hK hE hP hD hS hA [] rfl (by decide)) rfl rfl hl.1 rfl (lv_room (Nat.le_of_ble_eq_true rfl)) dX0_writeTo_1 ⟨Nat.le_of_ble_eq_true rfl, Nat.le_of_ble_eq_true rfl⟩) (fun H locs hP hD hS => ?_)
  refine lv_if_eq (tgt := 27) hx hb dX0_writeTo_4 (by decide) (fun c_3 => ?_) (fun c_3 => ?_)
  · have hf := br_pos c_3 hf
    cases hf
    exact rt_v hQ hx hb hr hlocks hP hD hS dX0_writeTo_27
  · have hf := br_neg c_3 hf
    refine lv_aload_n hx hb dX0_writeTo_7 rfl (lv_at hl 0 rfl) ?_
    refine va_get (D := D) (ci := 0) (v := .ref h1) (C := RX0) (T := TX0) (N := 1) hx hb hts iX0 hown hK hP 0 rfl rfl 0 (by decide) (hts (.fieldLink RX0 9 "LongCaterpillars$House" "cells" "[I") (List.mem_of_getElem? (i := 1) rfl)) (fun _ h9 => h9) rfl dX0_writeTo_8 ?_
    refine lv_iconst (v := 0) hx hb dX0_writeTo_11 (by decide) ?_
    refine lv_aload_n hx hb dX0_writeTo_12 rfl (lv_at hl 1 rfl) ?_
    refine va_getN (D := D) (ci := 1) (v := .ref s1) (C := RX1) (T := TX1) (N := 1) hx hb hts iX1 hown hK hP 2 rfl rfl 0 (by decide) (va_Nw.use rfl hE.1.2.2.2.2.2.2) (fun _ h9 => h9) rfl dX0_writeTo_13 ?_
    refine lv_iload_n hx hb dX0_writeTo_16 rfl (lv_at hl 2 rfl) ?_
    refine lv_sipush (v := 256) hx hb dX0_writeTo_17 (by decide) ?_
    refine lv_imul hx hb dX0_writeTo_20 ?_
    refine lv_sipush (v := 256) hx hb dX0_writeTo_21 (by decide) ?_
    obtain ⟨y_4, hf⟩ := gz_some hf
    obtain ⟨y_4_0, y_4_1, y_4_2, y_4_3, y_4_4⟩ := cpok_of y_4
    refine va_copyi hx hb (hml.trans hl.1.symm) hown (hts (.methodLink RX0 18 arraycopyName) (List.mem_of_getElem? (i := 2) rfl)) (hts (.native arraycopyName) (List.mem_of_getElem? (i := 3) rfl)) (hts (.static arraycopyName) (List.mem_of_getElem? (i := 4) rfl)) (hts (.initialized "java/lang/System") (List.mem_of_getElem? (i := 5) rfl)) hK hP hD hS 1 3 0 0 rfl rfl rfl rfl rfl y_4_0 y_4_1 y_4_2 y_4_3 y_4_4 (fun _ _ => rfl) (Nat.le_of_ble_eq_true rfl) (by decide +kernel) dX0_writeTo_24 (fun H locs hP hD hS => ?_)
    have hP : va_P D vwCl [(h0, .inr (0, [.ref h1])), (h1, .inl (cI, 256, .inl C)), (s0, .inr (1, [.ref s1])), (s1, .inl (cI, 4096, .inl (va_cpy C G 0 ((p1 * 256).toNatClampNeg) 256)))] H := hP
    have hD : va_D A [(h0, .inr (0, [.ref h1])), (h1, .inl (cI, 256, .inl C)), (s0, .inr (1, [.ref s1])), (s1, .inl (cI, 4096, .inl (va_cpy C G 0 ((p1 * 256).toNatClampNeg) 256)))] := hD
    cases hf
    exact rt_v hQ hx hb hr hlocks hP hD hS dX0_writeTo_27
abbrev rmX0_setNumber : Room := ({ frames := 1, cells := 0, slots := 0, locals := 0 })
set_option maxHeartbeats 4000000 in
set_option maxRecDepth 100000 in
theorem kX0_setNumber (l : Launch) (D : va_G) (cI cB cL : ClassId) (h0 : Nat) (h1 : Nat) (sz : Nat) (C : Nat → Int32) (p0 : Int32) (p1 : Int32) (p2 : Int32) (C' : Nat → Int32) (hf : fX0_setNumber C p0 p1 p2 = some C') : Met l yX0_setNumber wsX0_setNumber rmX0_setNumber (mPc D (tyK cI cB cL) [.ref h0, .int p0, .int p1, .int p2] sz [(h0, .inr (0, [.ref h1])), (h1, .inl (cI, 256, .inl C))]) (mQv D [(h0, .inr (0, [.ref h1])), (h1, .inl (cI, 256, .inl C'))] (va_A [(h0, .inr (0, [.ref h1])), (h1, .inl (cI, 256, .inl C))] sz)) 0 0 (va_A [(h0, .inr (0, [.ref h1])), (h1, .inl (cI, 256, .inl C))] sz) := by
  refine m_of (Qf := mQv D [(h0, .inr (0, [.ref h1])), (h1, .inl (cI, 256, .inl C'))]) (cc := cX0_setNumber) (maxL := 4) (ret := none) (by decide) rfl (Nat.le_of_ble_eq_true rfl) ?_
  intro p e s m args below meth c A ls hsz hx hb hr hml hown hts hlocks hP hK hD hS hA hE hin hl Q hQ
  subst hsz
  have hl : lv_has ls 4 [(0, .ref h0), (1, .int p0), (2, .int p1), (3, .int p2)] := hl
  have hown : s.vm.findClass RX0 = some m.cls := hown
  have iX0 : ∀ w ∈ u_ws RX0 TX0 1, w ∈ wsX0_setNumber := by decide +kernel
  unfold fX0_setNumber at hf
  refine lv_iload_n hx hb dX0_setNumber_0 rfl (lv_at hl 1 rfl) ?_
  refine lv_if_lt (tgt := 35) hx hb dX0_setNumber_1 (by decide) (fun c_1 => ?_) (fun c_1 => ?_)
  · have hf := br_pos c_1 hf
    cases hf
    exact rt_v hQ hx hb hr hlocks hP hD hS dX0_setNumber_35
  · have hf := br_neg c_1 hf
    refine lv_iload_n hx hb dX0_setNumber_4 rfl (lv_at hl 1 rfl) ?_
    refine lv_bipush (v := 10) hx hb dX0_setNumber_5 (by decide) ?_
    refine lv_icmp_ge (tgt := 35) hx hb dX0_setNumber_7 (by decide) (fun c_2 => ?_) (fun c_2 => ?_)
    · have hf := br_pos c_2 hf
      cases hf
      exact rt_v hQ hx hb hr hlocks hP hD hS dX0_setNumber_35
    · have hf := br_neg c_2 hf
      refine lv_iload_n hx hb dX0_setNumber_10 rfl (lv_at hl 2 rfl) ?_
      refine lv_if_lt (tgt := 35) hx hb dX0_setNumber_11 (by decide) (fun c_3 => ?_) (fun c_3 => ?_)
      · have hf := br_pos c_3 hf
        cases hf
        exact rt_v hQ hx hb hr hlocks hP hD hS dX0_setNumber_35
      · have hf := br_neg c_3 hf
        refine lv_iload_n hx hb dX0_setNumber_14 rfl (lv_at hl 2 rfl) ?_
        refine lv_bipush (v := 18) hx hb dX0_setNumber_15 (by decide) ?_
        refine lv_icmp_ge (tgt := 35) hx hb dX0_setNumber_17 (by decide) (fun c_4 => ?_) (fun c_4 => ?_)
        · have hf := br_pos c_4 hf
          cases hf
          exact rt_v hQ hx hb hr hlocks hP hD hS dX0_setNumber_35
        · have hf := br_neg c_4 hf
          refine lv_aload_n hx hb dX0_setNumber_20 rfl (lv_at hl 0 rfl) ?_
          refine va_get (D := D) (ci := 0) (v := .ref h1) (C := RX0) (T := TX0) (N := 1) hx hb hts iX0 hown hK hP 0 rfl rfl 0 (by decide) (hts (.fieldLink RX0 9 "LongCaterpillars$House" "cells" "[I") (List.mem_of_getElem? (i := 1) rfl)) (fun _ h9 => h9) rfl dX0_setNumber_21 ?_
          refine lv_bipush (v := 76) hx hb dX0_setNumber_24 (by decide) ?_
          refine lv_iload_n hx hb dX0_setNumber_26 rfl (lv_at hl 1 rfl) ?_
          refine lv_bipush (v := 18) hx hb dX0_setNumber_27 (by decide) ?_
          refine lv_imul hx hb dX0_setNumber_29 ?_
          refine lv_iadd hx hb dX0_setNumber_30 ?_
          refine lv_iload_n hx hb dX0_setNumber_31 rfl (lv_at hl 2 rfl) ?_
          refine lv_iadd hx hb dX0_setNumber_32 ?_
          refine lv_iload_n hx hb dX0_setNumber_33 rfl (lv_at hl 3 rfl) ?_
          obtain ⟨i_5, hf⟩ := gd_some hf
          refine x_iast hx hb hK hP hD hS 1 0 rfl rfl i_5 _ rfl [(h0, .inr (0, [.ref h1])), (h1, .inl (cI, 256, .inl (upd C (((76 + (p0 * 18)) + p1).toNatClampNeg) p2)))] rfl dX0_setNumber_34 (fun H locs hP hD hS => ?_)
          cases hf
          exact rt_v hQ hx hb hr hlocks hP hD hS dX0_setNumber_35
abbrev rmX0_addCaterpillar : Room := ({ frames := 2, cells := 0, slots := 0, locals := 23 })
set_option maxHeartbeats 4000000 in
set_option maxRecDepth 100000 in
theorem kX0_addCaterpillar (l : Launch) (D : va_G) (cI cB cL : ClassId) (h0 : Nat) (h1 : Nat) (sz : Nat) (C : Nat → Int32) (p0 : Int32) (p1 : Int32) (p2 : Int32) (w : Int32) (C' : Nat → Int32) (hf : fX0_addCaterpillar C p0 p1 p2 = some (w, C')) : Met l yX0_addCaterpillar wsX0_addCaterpillar rmX0_addCaterpillar (mPc D (tyK cI cB cL) [.ref h0, .int p0, .int p1, .int p2] sz [(h0, .inr (0, [.ref h1])), (h1, .inl (cI, 256, .inl C))]) (mQi D w [(h0, .inr (0, [.ref h1])), (h1, .inl (cI, 256, .inl C'))] (va_A [(h0, .inr (0, [.ref h1])), (h1, .inl (cI, 256, .inl C))] sz)) 0 0 (va_A [(h0, .inr (0, [.ref h1])), (h1, .inl (cI, 256, .inl C))] sz) := by
  refine m_of (Qf := mQi D w [(h0, .inr (0, [.ref h1])), (h1, .inl (cI, 256, .inl C'))]) (cc := cX0_addCaterpillar) (maxL := 5) (ret := (some .boolean)) (by decide) rfl (Nat.le_of_ble_eq_true rfl) ?_
  intro p e s m args below meth c A ls hsz hx hb hr hml hown hts hlocks hP hK hD hS hA hE hin hl Q hQ
  subst hsz
  have hl : lv_has ls 5 [(0, .ref h0), (1, .int p0), (2, .int p1), (3, .int p2)] := hl
  have hown : s.vm.findClass RX0 = some m.cls := hown
  have iX0 : ∀ w ∈ u_ws RX0 TX0 1, w ∈ wsX0_addCaterpillar := by decide +kernel
  unfold fX0_addCaterpillar at hf
  refine lv_aload_n hx hb dX0_addCaterpillar_0 rfl (lv_at hl 0 rfl) ?_
  obtain ⟨q, h_1, hf⟩ := bd_some hf
  obtain ⟨r_2, rfl⟩ : ∃ z, z = q := ⟨_, rfl⟩
  try dsimp only at hf
  refine cl_i (ws := [(h0, .inr (0, [.ref h1])), (h1, .inl (cI, 256, .inl C))]) (wc := [(h0, .inr (0, [.ref h1])), (h1, .inl (cI, 256, .inl C))]) (wr := []) (w1 := [(h0, .inr (0, [.ref h1])), (h1, .inl (cI, 256, .inl C))]) (ws' := [(h0, .inr (0, [.ref h1])), (h1, .inl (cI, 256, .inl C))]) hP hD hS hA [0, 1] [] [0, 1] rfl rfl (by decide) (by decide) rfl (by decide) (va_runV (As := []) (rest := []) ⟨hx, hb, hml, hown, hts⟩ (kX0_isFull l D cI cB cL h0 h1 _ C r_2 h_1) (cwV 0 hts gX0_addCaterpillar_X0_isFull rfl rfl rfl (by decide +kernel) ⟨Nat.le_of_ble_eq_true rfl, Nat.le_of_ble_eq_true rfl⟩) (pre_V (ci := 0) (q0 := 0) (T := TX0) (N := 1) hK hE hP hD hS hA [0, 1] rfl (by decide) rfl rfl) rfl rfl hl.1 rfl (lv_room (Nat.le_of_ble_eq_true rfl)) dX0_addCaterpillar_1 ⟨Nat.le_of_ble_eq_true rfl, Nat.le_of_ble_eq_true rfl⟩) (fun H locs hP hD hS => ?_)
  refine lv_if_ne (tgt := 28) hx hb dX0_addCaterpillar_4 (by decide) (fun c_3 => ?_) (fun c_3 => ?_)
  · have hf := br_neg c_3 hf
    refine lv_iconst (v := 0) hx hb dX0_addCaterpillar_28 (by decide) ?_
    cases hf
    exact rt_z hQ hx hb hr rfl hlocks hP hD hS dX0_addCaterpillar_29
  · have hf := br_pos c_3 hf
    refine lv_iload_n hx hb dX0_addCaterpillar_7 rfl (lv_at hl 1 rfl) ?_
    obtain ⟨q, h_4, hf⟩ := bd_some hf
    obtain ⟨r_5, rfl⟩ : ∃ z, z = q := ⟨_, rfl⟩
    try dsimp only at hf
    refine cl_i (ws := [(h0, .inr (0, [.ref h1])), (h1, .inl (cI, 256, .inl C))]) (wc := []) (wr := [(h0, .inr (0, [.ref h1])), (h1, .inl (cI, 256, .inl C))]) (w1 := []) (ws' := [(h0, .inr (0, [.ref h1])), (h1, .inl (cI, 256, .inl C))]) hP hD hS hA [] [0, 1] [0, 1] rfl rfl (by decide) (by decide) rfl (by decide) (va_runSN (As := [.int p0]) (rest := []) ⟨hx, hb, hml, hown, hts⟩ (kX3_isRoom l D cI cB cL _ p0 r_5 h_4) ⟨va_cnB 1 hts gX0_addCaterpillar_X3_isRoom_n31 rfl rfl rfl hE.1.2.2.2.1 (hts (.initialized RX3) (List.mem_of_getElem? (i := 8) rfl)) (by decide +kernel) ⟨Nat.le_of_ble_eq_true rfl, Nat.le_of_ble_eq_true rfl⟩, hts (.static yX3_isRoom) (List.mem_of_getElem? (i := 7) rfl), trivial⟩ (pre_S hK hE hP hD hS hA [] rfl (by decide)) rfl rfl hl.1 rfl (lv_room (Nat.le_of_ble_eq_true rfl)) dX0_addCaterpillar_8 ⟨Nat.le_of_ble_eq_true rfl, Nat.le_of_ble_eq_true rfl⟩) (fun H locs hP hD hS => ?_)
    refine lv_if_eq (tgt := 28) hx hb dX0_addCaterpillar_11 (by decide) (fun c_6 => ?_) (fun c_6 => ?_)
    · have hf := br_pos c_6 hf
      refine lv_iconst (v := 0) hx hb dX0_addCaterpillar_28 (by decide) ?_
      cases hf
      exact rt_z hQ hx hb hr rfl hlocks hP hD hS dX0_addCaterpillar_29
    · have hf := br_neg c_6 hf
      refine lv_iload_n hx hb dX0_addCaterpillar_14 rfl (lv_at hl 2 rfl) ?_
      obtain ⟨q, h_7, hf⟩ := bd_some hf
      obtain ⟨r_8, rfl⟩ : ∃ z, z = q := ⟨_, rfl⟩
      try dsimp only at hf
      refine cl_i (ws := [(h0, .inr (0, [.ref h1])), (h1, .inl (cI, 256, .inl C))]) (wc := []) (wr := [(h0, .inr (0, [.ref h1])), (h1, .inl (cI, 256, .inl C))]) (w1 := []) (ws' := [(h0, .inr (0, [.ref h1])), (h1, .inl (cI, 256, .inl C))]) hP hD hS hA [] [0, 1] [0, 1] rfl rfl (by decide) (by decide) rfl (by decide) (va_runSN (As := [.int p1]) (rest := []) ⟨hx, hb, hml, hown, hts⟩ (kX3_isRoom l D cI cB cL _ p1 r_8 h_7) ⟨va_cnB 1 hts gX0_addCaterpillar_X3_isRoom_n31 rfl rfl rfl hE.1.2.2.2.1 (hts (.initialized RX3) (List.mem_of_getElem? (i := 8) rfl)) (by decide +kernel) ⟨Nat.le_of_ble_eq_true rfl, Nat.le_of_ble_eq_true rfl⟩, hts (.static yX3_isRoom) (List.mem_of_getElem? (i := 7) rfl), trivial⟩ (pre_S hK hE hP hD hS hA [] rfl (by decide)) rfl rfl hl.1 rfl (lv_room (Nat.le_of_ble_eq_true rfl)) dX0_addCaterpillar_15 ⟨Nat.le_of_ble_eq_true rfl, Nat.le_of_ble_eq_true rfl⟩) (fun H locs hP hD hS => ?_)
      refine lv_if_eq (tgt := 28) hx hb dX0_addCaterpillar_18 (by decide) (fun c_9 => ?_) (fun c_9 => ?_)
      · have hf := br_pos c_9 hf
        refine lv_iconst (v := 0) hx hb dX0_addCaterpillar_28 (by decide) ?_
        cases hf
        exact rt_z hQ hx hb hr rfl hlocks hP hD hS dX0_addCaterpillar_29
      · have hf := br_neg c_9 hf
        refine lv_iload_n hx hb dX0_addCaterpillar_21 rfl (lv_at hl 3 rfl) ?_
        obtain ⟨q, h_10, hf⟩ := bd_some hf
        obtain ⟨r_11, rfl⟩ : ∃ z, z = q := ⟨_, rfl⟩
        try dsimp only at hf
        refine cl_i (ws := [(h0, .inr (0, [.ref h1])), (h1, .inl (cI, 256, .inl C))]) (wc := []) (wr := [(h0, .inr (0, [.ref h1])), (h1, .inl (cI, 256, .inl C))]) (w1 := []) (ws' := [(h0, .inr (0, [.ref h1])), (h1, .inl (cI, 256, .inl C))]) hP hD hS hA [] [0, 1] [0, 1] rfl rfl (by decide) (by decide) rfl (by decide) (va_runSN (As := [.int p2]) (rest := []) ⟨hx, hb, hml, hown, hts⟩ (kX3_isLength l D cI cB cL _ p2 r_11 h_10) ⟨va_cnB 1 hts gX0_addCaterpillar_X3_isLength_n59 rfl rfl rfl hE.1.2.2.2.2.1 (hts (.initialized RX3) (List.mem_of_getElem? (i := 8) rfl)) (by decide +kernel) ⟨Nat.le_of_ble_eq_true rfl, Nat.le_of_ble_eq_true rfl⟩, hts (.static yX3_isLength) (List.mem_of_getElem? (i := 10) rfl), trivial⟩ (pre_S hK hE hP hD hS hA [] rfl (by decide)) rfl rfl hl.1 rfl (lv_room (Nat.le_of_ble_eq_true rfl)) dX0_addCaterpillar_22 ⟨Nat.le_of_ble_eq_true rfl, Nat.le_of_ble_eq_true rfl⟩) (fun H locs hP hD hS => ?_)
        refine lv_if_ne (tgt := 30) hx hb dX0_addCaterpillar_25 (by decide) (fun c_12 => ?_) (fun c_12 => ?_)
        · have hf := br_neg c_12 hf
          refine lv_aload_n hx hb dX0_addCaterpillar_30 rfl (lv_at hl 0 rfl) ?_
          refine va_get (D := D) (ci := 0) (v := .ref h1) (C := RX0) (T := TX0) (N := 1) hx hb hts iX0 hown hK hP 0 rfl rfl 0 (by decide) (hts (.fieldLink RX0 9 "LongCaterpillars$House" "cells" "[I") (List.mem_of_getElem? (i := 1) rfl)) (fun _ h9 => h9) rfl dX0_addCaterpillar_31 ?_
          refine lv_iconst (v := 0) hx hb dX0_addCaterpillar_34 (by decide) ?_
          refine x_iald hx hb hK hP 1 0 rfl rfl (vl rfl) 0 rfl dX0_addCaterpillar_35 ?_
          refine lv_istore (lv' := [(4, .int (C 0)), (0, .ref h0), (1, .int p0), (2, .int p1), (3, .int p2)]) hx hb dX0_addCaterpillar_36 hl (by decide) rfl (fun ls hl => ?_)
          refine lv_aload_n hx hb dX0_addCaterpillar_38 rfl (lv_at hl 1 rfl) ?_
          refine va_get (D := D) (ci := 0) (v := .ref h1) (C := RX0) (T := TX0) (N := 1) hx hb hts iX0 hown hK hP 0 rfl rfl 0 (by decide) (hts (.fieldLink RX0 9 "LongCaterpillars$House" "cells" "[I") (List.mem_of_getElem? (i := 1) rfl)) (fun _ h9 => h9) rfl dX0_addCaterpillar_39 ?_
          refine lv_iconst (v := 0) hx hb dX0_addCaterpillar_42 (by decide) ?_
          refine lv_dup2_11 hx hb dX0_addCaterpillar_43 rfl rfl ?_
          refine x_iald hx hb hK hP 1 0 rfl rfl (vl rfl) 0 rfl dX0_addCaterpillar_44 ?_
          refine lv_iconst (v := 1) hx hb dX0_addCaterpillar_45 (by decide) ?_
          refine lv_iadd hx hb dX0_addCaterpillar_46 ?_
          refine x_iast hx hb hK hP hD hS 1 0 rfl rfl (vl rfl) 0 rfl [(h0, .inr (0, [.ref h1])), (h1, .inl (cI, 256, .inl (upd C 0 ((C 0) + 1))))] rfl dX0_addCaterpillar_47 (fun H locs hP hD hS => ?_)
          refine lv_aload_n hx hb dX0_addCaterpillar_48 rfl (lv_at hl 1 rfl) ?_
          refine lv_iload hx hb dX0_addCaterpillar_49 (lv_at hl 0 rfl) ?_
          refine lv_iconst (v := 0) hx hb dX0_addCaterpillar_51 (by decide) ?_
          refine lv_iconst (v := 0) hx hb dX0_addCaterpillar_52 (by decide) ?_
          obtain ⟨q, h_13, hf⟩ := bd_some hf
          obtain ⟨C_14, rfl⟩ : ∃ z, z = q := ⟨_, rfl⟩
          try dsimp only at hf
          refine cl_v (ws := [(h0, .inr (0, [.ref h1])), (h1, .inl (cI, 256, .inl (upd C 0 ((C 0) + 1))))]) (wc := [(h0, .inr (0, [.ref h1])), (h1, .inl (cI, 256, .inl (upd C 0 ((C 0) + 1))))]) (wr := []) (w1 := [(h0, .inr (0, [.ref h1])), (h1, .inl (cI, 256, .inl C_14))]) (ws' := [(h0, .inr (0, [.ref h1])), (h1, .inl (cI, 256, .inl C_14))]) hP hD hS hA [0, 1] [] [0, 1] rfl rfl (by decide) (by decide) rfl (by decide) (va_runV (As := [.int (C 0), .int 0, .int 0]) (rest := []) ⟨hx, hb, hml, hown, hts⟩ (kX0_setNumber l D cI cB cL h0 h1 _ (upd C 0 ((C 0) + 1)) (C 0) 0 0 C_14 h_13) (cwV 3 hts gX0_addCaterpillar_X0_setNumber rfl rfl rfl (by decide +kernel) ⟨Nat.le_of_ble_eq_true rfl, Nat.le_of_ble_eq_true rfl⟩) (pre_V (ci := 0) (q0 := 0) (T := TX0) (N := 1) hK hE hP hD hS hA [0, 1] rfl (by decide) rfl rfl) rfl rfl hl.1 rfl (lv_room (Nat.le_of_ble_eq_true rfl)) dX0_addCaterpillar_53 ⟨Nat.le_of_ble_eq_true rfl, Nat.le_of_ble_eq_true rfl⟩) (fun H locs hP hD hS => ?_)
          refine lv_aload_n hx hb dX0_addCaterpillar_56 rfl (lv_at hl 1 rfl) ?_
          refine lv_iload hx hb dX0_addCaterpillar_57 (lv_at hl 0 rfl) ?_
          refine lv_iconst (v := 1) hx hb dX0_addCaterpillar_59 (by decide) ?_
          refine lv_iconst (v := 0) hx hb dX0_addCaterpillar_60 (by decide) ?_
          obtain ⟨q, h_15, hf⟩ := bd_some hf
          obtain ⟨C_16, rfl⟩ : ∃ z, z = q := ⟨_, rfl⟩
          try dsimp only at hf
          refine cl_v (ws := [(h0, .inr (0, [.ref h1])), (h1, .inl (cI, 256, .inl C_14))]) (wc := [(h0, .inr (0, [.ref h1])), (h1, .inl (cI, 256, .inl C_14))]) (wr := []) (w1 := [(h0, .inr (0, [.ref h1])), (h1, .inl (cI, 256, .inl C_16))]) (ws' := [(h0, .inr (0, [.ref h1])), (h1, .inl (cI, 256, .inl C_16))]) hP hD hS hA [0, 1] [] [0, 1] rfl rfl (by decide) (by decide) rfl (by decide) (va_runV (As := [.int (C 0), .int 1, .int 0]) (rest := []) ⟨hx, hb, hml, hown, hts⟩ (kX0_setNumber l D cI cB cL h0 h1 _ C_14 (C 0) 1 0 C_16 h_15) (cwV 3 hts gX0_addCaterpillar_X0_setNumber rfl rfl rfl (by decide +kernel) ⟨Nat.le_of_ble_eq_true rfl, Nat.le_of_ble_eq_true rfl⟩) (pre_V (ci := 0) (q0 := 0) (T := TX0) (N := 1) hK hE hP hD hS hA [0, 1] rfl (by decide) rfl rfl) rfl rfl hl.1 rfl (lv_room (Nat.le_of_ble_eq_true rfl)) dX0_addCaterpillar_61 ⟨Nat.le_of_ble_eq_true rfl, Nat.le_of_ble_eq_true rfl⟩) (fun H locs hP hD hS => ?_)
          refine lv_aload_n hx hb dX0_addCaterpillar_64 rfl (lv_at hl 1 rfl) ?_
          refine lv_iload hx hb dX0_addCaterpillar_65 (lv_at hl 0 rfl) ?_
          refine lv_iconst (v := 2) hx hb dX0_addCaterpillar_67 (by decide) ?_
          refine lv_iload_n hx hb dX0_addCaterpillar_68 rfl (lv_at hl 4 rfl) ?_
          obtain ⟨q, h_17, hf⟩ := bd_some hf
          obtain ⟨C_18, rfl⟩ : ∃ z, z = q := ⟨_, rfl⟩
          try dsimp only at hf
          refine cl_v (ws := [(h0, .inr (0, [.ref h1])), (h1, .inl (cI, 256, .inl C_16))]) (wc := [(h0, .inr (0, [.ref h1])), (h1, .inl (cI, 256, .inl C_16))]) (wr := []) (w1 := [(h0, .inr (0, [.ref h1])), (h1, .inl (cI, 256, .inl C_18))]) (ws' := [(h0, .inr (0, [.ref h1])), (h1, .inl (cI, 256, .inl C_18))]) hP hD hS hA [0, 1] [] [0, 1] rfl rfl (by decide) (by decide) rfl (by decide) (va_runV (As := [.int (C 0), .int 2, .int p2]) (rest := []) ⟨hx, hb, hml, hown, hts⟩ (kX0_setNumber l D cI cB cL h0 h1 _ C_16 (C 0) 2 p2 C_18 h_17) (cwV 3 hts gX0_addCaterpillar_X0_setNumber rfl rfl rfl (by decide +kernel) ⟨Nat.le_of_ble_eq_true rfl, Nat.le_of_ble_eq_true rfl⟩) (pre_V (ci := 0) (q0 := 0) (T := TX0) (N := 1) hK hE hP hD hS hA [0, 1] rfl (by decide) rfl rfl) rfl rfl hl.1 rfl (lv_room (Nat.le_of_ble_eq_true rfl)) dX0_addCaterpillar_69 ⟨Nat.le_of_ble_eq_true rfl, Nat.le_of_ble_eq_true rfl⟩) (fun H locs hP hD hS => ?_)
          refine lv_aload_n hx hb dX0_addCaterpillar_72 rfl (lv_at hl 1 rfl) ?_
          refine lv_iload hx hb dX0_addCaterpillar_73 (lv_at hl 0 rfl) ?_
          refine lv_iconst (v := 3) hx hb dX0_addCaterpillar_75 (by decide) ?_
          refine lv_iconst (v := 0) hx hb dX0_addCaterpillar_76 (by decide) ?_
          obtain ⟨q, h_19, hf⟩ := bd_some hf
          obtain ⟨C_20, rfl⟩ : ∃ z, z = q := ⟨_, rfl⟩
          try dsimp only at hf
          refine cl_v (ws := [(h0, .inr (0, [.ref h1])), (h1, .inl (cI, 256, .inl C_18))]) (wc := [(h0, .inr (0, [.ref h1])), (h1, .inl (cI, 256, .inl C_18))]) (wr := []) (w1 := [(h0, .inr (0, [.ref h1])), (h1, .inl (cI, 256, .inl C_20))]) (ws' := [(h0, .inr (0, [.ref h1])), (h1, .inl (cI, 256, .inl C_20))]) hP hD hS hA [0, 1] [] [0, 1] rfl rfl (by decide) (by decide) rfl (by decide) (va_runV (As := [.int (C 0), .int 3, .int 0]) (rest := []) ⟨hx, hb, hml, hown, hts⟩ (kX0_setNumber l D cI cB cL h0 h1 _ C_18 (C 0) 3 0 C_20 h_19) (cwV 3 hts gX0_addCaterpillar_X0_setNumber rfl rfl rfl (by decide +kernel) ⟨Nat.le_of_ble_eq_true rfl, Nat.le_of_ble_eq_true rfl⟩) (pre_V (ci := 0) (q0 := 0) (T := TX0) (N := 1) hK hE hP hD hS hA [0, 1] rfl (by decide) rfl rfl) rfl rfl hl.1 rfl (lv_room (Nat.le_of_ble_eq_true rfl)) dX0_addCaterpillar_77 ⟨Nat.le_of_ble_eq_true rfl, Nat.le_of_ble_eq_true rfl⟩) (fun H locs hP hD hS => ?_)
          refine lv_aload_n hx hb dX0_addCaterpillar_80 rfl (lv_at hl 1 rfl) ?_
          refine lv_iload hx hb dX0_addCaterpillar_81 (lv_at hl 0 rfl) ?_
          refine lv_iconst (v := 4) hx hb dX0_addCaterpillar_83 (by decide) ?_
          refine lv_iconst (v := 0) hx hb dX0_addCaterpillar_84 (by decide) ?_
          obtain ⟨q, h_21, hf⟩ := bd_some hf
          obtain ⟨C_22, rfl⟩ : ∃ z, z = q := ⟨_, rfl⟩
          try dsimp only at hf
          refine cl_v (ws := [(h0, .inr (0, [.ref h1])), (h1, .inl (cI, 256, .inl C_20))]) (wc := [(h0, .inr (0, [.ref h1])), (h1, .inl (cI, 256, .inl C_20))]) (wr := []) (w1 := [(h0, .inr (0, [.ref h1])), (h1, .inl (cI, 256, .inl C_22))]) (ws' := [(h0, .inr (0, [.ref h1])), (h1, .inl (cI, 256, .inl C_22))]) hP hD hS hA [0, 1] [] [0, 1] rfl rfl (by decide) (by decide) rfl (by decide) (va_runV (As := [.int (C 0), .int 4, .int 0]) (rest := []) ⟨hx, hb, hml, hown, hts⟩ (kX0_setNumber l D cI cB cL h0 h1 _ C_20 (C 0) 4 0 C_22 h_21) (cwV 3 hts gX0_addCaterpillar_X0_setNumber rfl rfl rfl (by decide +kernel) ⟨Nat.le_of_ble_eq_true rfl, Nat.le_of_ble_eq_true rfl⟩) (pre_V (ci := 0) (q0 := 0) (T := TX0) (N := 1) hK hE hP hD hS hA [0, 1] rfl (by decide) rfl rfl) rfl rfl hl.1 rfl (lv_room (Nat.le_of_ble_eq_true rfl)) dX0_addCaterpillar_85 ⟨Nat.le_of_ble_eq_true rfl, Nat.le_of_ble_eq_true rfl⟩) (fun H locs hP hD hS => ?_)
          refine lv_aload_n hx hb dX0_addCaterpillar_88 rfl (lv_at hl 1 rfl) ?_
          refine lv_iload hx hb dX0_addCaterpillar_89 (lv_at hl 0 rfl) ?_
          refine lv_iconst (v := 5) hx hb dX0_addCaterpillar_91 (by decide) ?_
          refine lv_iconst (v := (-1)) hx hb dX0_addCaterpillar_92 (by decide) ?_
          obtain ⟨q, h_23, hf⟩ := bd_some hf
          obtain ⟨C_24, rfl⟩ : ∃ z, z = q := ⟨_, rfl⟩
          try dsimp only at hf
          refine cl_v (ws := [(h0, .inr (0, [.ref h1])), (h1, .inl (cI, 256, .inl C_22))]) (wc := [(h0, .inr (0, [.ref h1])), (h1, .inl (cI, 256, .inl C_22))]) (wr := []) (w1 := [(h0, .inr (0, [.ref h1])), (h1, .inl (cI, 256, .inl C_24))]) (ws' := [(h0, .inr (0, [.ref h1])), (h1, .inl (cI, 256, .inl C_24))]) hP hD hS hA [0, 1] [] [0, 1] rfl rfl (by decide) (by decide) rfl (by decide) (va_runV (As := [.int (C 0), .int 5, .int (-1)]) (rest := []) ⟨hx, hb, hml, hown, hts⟩ (kX0_setNumber l D cI cB cL h0 h1 _ C_22 (C 0) 5 (-1) C_24 h_23) (cwV 3 hts gX0_addCaterpillar_X0_setNumber rfl rfl rfl (by decide +kernel) ⟨Nat.le_of_ble_eq_true rfl, Nat.le_of_ble_eq_true rfl⟩) (pre_V (ci := 0) (q0 := 0) (T := TX0) (N := 1) hK hE hP hD hS hA [0, 1] rfl (by decide) rfl rfl) rfl rfl hl.1 rfl (lv_room (Nat.le_of_ble_eq_true rfl)) dX0_addCaterpillar_93 ⟨Nat.le_of_ble_eq_true rfl, Nat.le_of_ble_eq_true rfl⟩) (fun H locs hP hD hS => ?_)
          refine lv_aload_n hx hb dX0_addCaterpillar_96 rfl (lv_at hl 1 rfl) ?_
          refine lv_iload hx hb dX0_addCaterpillar_97 (lv_at hl 0 rfl) ?_
          refine lv_bipush (v := 6) hx hb dX0_addCaterpillar_99 (by decide) ?_
          refine lv_iload_n hx hb dX0_addCaterpillar_101 rfl (lv_at hl 2 rfl) ?_
          obtain ⟨q, h_25, hf⟩ := bd_some hf
          obtain ⟨C_26, rfl⟩ : ∃ z, z = q := ⟨_, rfl⟩
          try dsimp only at hf
          refine cl_v (ws := [(h0, .inr (0, [.ref h1])), (h1, .inl (cI, 256, .inl C_24))]) (wc := [(h0, .inr (0, [.ref h1])), (h1, .inl (cI, 256, .inl C_24))]) (wr := []) (w1 := [(h0, .inr (0, [.ref h1])), (h1, .inl (cI, 256, .inl C_26))]) (ws' := [(h0, .inr (0, [.ref h1])), (h1, .inl (cI, 256, .inl C_26))]) hP hD hS hA [0, 1] [] [0, 1] rfl rfl (by decide) (by decide) rfl (by decide) (va_runV (As := [.int (C 0), .int 6, .int p0]) (rest := []) ⟨hx, hb, hml, hown, hts⟩ (kX0_setNumber l D cI cB cL h0 h1 _ C_24 (C 0) 6 p0 C_26 h_25) (cwV 3 hts gX0_addCaterpillar_X0_setNumber rfl rfl rfl (by decide +kernel) ⟨Nat.le_of_ble_eq_true rfl, Nat.le_of_ble_eq_true rfl⟩) (pre_V (ci := 0) (q0 := 0) (T := TX0) (N := 1) hK hE hP hD hS hA [0, 1] rfl (by decide) rfl rfl) rfl rfl hl.1 rfl (lv_room (Nat.le_of_ble_eq_true rfl)) dX0_addCaterpillar_102 ⟨Nat.le_of_ble_eq_true rfl, Nat.le_of_ble_eq_true rfl⟩) (fun H locs hP hD hS => ?_)
          refine lv_aload_n hx hb dX0_addCaterpillar_105 rfl (lv_at hl 1 rfl) ?_
          refine lv_iload hx hb dX0_addCaterpillar_106 (lv_at hl 0 rfl) ?_
          refine lv_bipush (v := 7) hx hb dX0_addCaterpillar_108 (by decide) ?_
          refine lv_iload_n hx hb dX0_addCaterpillar_110 rfl (lv_at hl 3 rfl) ?_
          obtain ⟨q, h_27, hf⟩ := bd_some hf
          obtain ⟨C_28, rfl⟩ : ∃ z, z = q := ⟨_, rfl⟩
          try dsimp only at hf
          refine cl_v (ws := [(h0, .inr (0, [.ref h1])), (h1, .inl (cI, 256, .inl C_26))]) (wc := [(h0, .inr (0, [.ref h1])), (h1, .inl (cI, 256, .inl C_26))]) (wr := []) (w1 := [(h0, .inr (0, [.ref h1])), (h1, .inl (cI, 256, .inl C_28))]) (ws' := [(h0, .inr (0, [.ref h1])), (h1, .inl (cI, 256, .inl C_28))]) hP hD hS hA [0, 1] [] [0, 1] rfl rfl (by decide) (by decide) rfl (by decide) (va_runV (As := [.int (C 0), .int 7, .int p1]) (rest := []) ⟨hx, hb, hml, hown, hts⟩ (kX0_setNumber l D cI cB cL h0 h1 _ C_26 (C 0) 7 p1 C_28 h_27) (cwV 3 hts gX0_addCaterpillar_X0_setNumber rfl rfl rfl (by decide +kernel) ⟨Nat.le_of_ble_eq_true rfl, Nat.le_of_ble_eq_true rfl⟩) (pre_V (ci := 0) (q0 := 0) (T := TX0) (N := 1) hK hE hP hD hS hA [0, 1] rfl (by decide) rfl rfl) rfl rfl hl.1 rfl (lv_room (Nat.le_of_ble_eq_true rfl)) dX0_addCaterpillar_111 ⟨Nat.le_of_ble_eq_true rfl, Nat.le_of_ble_eq_true rfl⟩) (fun H locs hP hD hS => ?_)
          refine lv_aload_n hx hb dX0_addCaterpillar_114 rfl (lv_at hl 1 rfl) ?_
          refine lv_iload hx hb dX0_addCaterpillar_115 (lv_at hl 0 rfl) ?_
          refine lv_bipush (v := 8) hx hb dX0_addCaterpillar_117 (by decide) ?_
          refine lv_iload_n hx hb dX0_addCaterpillar_119 rfl (lv_at hl 4 rfl) ?_
          obtain ⟨q, h_29, hf⟩ := bd_some hf
          obtain ⟨C_30, rfl⟩ : ∃ z, z = q := ⟨_, rfl⟩
          try dsimp only at hf
          refine cl_v (ws := [(h0, .inr (0, [.ref h1])), (h1, .inl (cI, 256, .inl C_28))]) (wc := [(h0, .inr (0, [.ref h1])), (h1, .inl (cI, 256, .inl C_28))]) (wr := []) (w1 := [(h0, .inr (0, [.ref h1])), (h1, .inl (cI, 256, .inl C_30))]) (ws' := [(h0, .inr (0, [.ref h1])), (h1, .inl (cI, 256, .inl C_30))]) hP hD hS hA [0, 1] [] [0, 1] rfl rfl (by decide) (by decide) rfl (by decide) (va_runV (As := [.int (C 0), .int 8, .int p2]) (rest := []) ⟨hx, hb, hml, hown, hts⟩ (kX0_setNumber l D cI cB cL h0 h1 _ C_28 (C 0) 8 p2 C_30 h_29) (cwV 3 hts gX0_addCaterpillar_X0_setNumber rfl rfl rfl (by decide +kernel) ⟨Nat.le_of_ble_eq_true rfl, Nat.le_of_ble_eq_true rfl⟩) (pre_V (ci := 0) (q0 := 0) (T := TX0) (N := 1) hK hE hP hD hS hA [0, 1] rfl (by decide) rfl rfl) rfl rfl hl.1 rfl (lv_room (Nat.le_of_ble_eq_true rfl)) dX0_addCaterpillar_120 ⟨Nat.le_of_ble_eq_true rfl, Nat.le_of_ble_eq_true rfl⟩) (fun H locs hP hD hS => ?_)
          refine lv_iconst (v := 1) hx hb dX0_addCaterpillar_123 (by decide) ?_
          cases hf
          exact rt_z hQ hx hb hr rfl hlocks hP hD hS dX0_addCaterpillar_124
        · have hf := br_pos c_12 hf
          refine lv_iconst (v := 0) hx hb dX0_addCaterpillar_28 (by decide) ?_
          cases hf
          exact rt_z hQ hx hb hr rfl hlocks hP hD hS dX0_addCaterpillar_29
abbrev rmX3_isTicks : Room := ({ frames := 1, cells := 0, slots := 0, locals := 0 })
set_option maxHeartbeats 4000000 in
set_option maxRecDepth 100000 in
theorem kX3_isTicks (l : Launch) (D : va_G) (cI cB cL : ClassId) (sz : Nat) (p0 : Int32) (w : Int32) (hf : fX3_isTicks p0 = some w) : Met l yX3_isTicks wsX3_isTicks rmX3_isTicks (mPc D (tyK cI cB cL) [.int p0] sz []) (mQi D w [] (va_A [] sz)) 0 0 (va_A [] sz) := by
  refine m_of (Qf := mQi D w []) (cc := cX3_isTicks) (maxL := 1) (ret := (some .boolean)) (by decide) rfl (Nat.le_of_ble_eq_true rfl) ?_
  intro p e s m args below meth c A ls hsz hx hb hr hml hown hts hlocks hP hK hD hS hA hE hin hl Q hQ
  subst hsz
  have hl : lv_has ls 1 [(0, .int p0)] := hl
  have hown : s.vm.findClass RX3 = some m.cls := hown
  unfold fX3_isTicks at hf
  refine lv_iload_n hx hb dX3_isTicks_0 rfl (lv_at hl 0 rfl) ?_
  refine lv_iconst (v := 1) hx hb dX3_isTicks_1 (by decide) ?_
  refine lv_icmp_lt (tgt := 15) hx hb dX3_isTicks_2 (by decide) (fun c_1 => ?_) (fun c_1 => ?_)
  · have hf := br_pos c_1 hf
    refine lv_iconst (v := 0) hx hb dX3_isTicks_15 (by decide) ?_
    cases hf
    exact rt_z hQ hx hb hr rfl hlocks hP hD hS dX3_isTicks_16
  · have hf := br_neg c_1 hf
    refine lv_iload_n hx hb dX3_isTicks_5 rfl (lv_at hl 0 rfl) ?_
    refine lv_bipush (v := 60) hx hb dX3_isTicks_6 (by decide) ?_
    refine lv_icmp_gt (tgt := 15) hx hb dX3_isTicks_8 (by decide) (fun c_2 => ?_) (fun c_2 => ?_)
    · have hf := br_pos c_2 hf
      refine lv_iconst (v := 0) hx hb dX3_isTicks_15 (by decide) ?_
      cases hf
      exact rt_z hQ hx hb hr rfl hlocks hP hD hS dX3_isTicks_16
    · have hf := br_neg c_2 hf
      refine lv_iconst (v := 1) hx hb dX3_isTicks_11 (by decide) ?_
      refine lv_goto (tgt := 16) hx hb dX3_isTicks_12 (by decide) ?_
      cases hf
      exact rt_z hQ hx hb hr rfl hlocks hP hD hS dX3_isTicks_16
abbrev rmX0_isUnderWay : Room := ({ frames := 3, cells := 0, slots := 0, locals := 44 })
set_option maxHeartbeats 4000000 in
set_option maxRecDepth 100000 in
theorem kX0_isUnderWay (l : Launch) (D : va_G) (cI cB cL : ClassId) (h0 : Nat) (h1 : Nat) (sz : Nat) (C : Nat → Int32) (p0 : Int32) (w : Int32) (hf : fX0_isUnderWay C p0 = some w) : Met l yX0_isUnderWay wsX0_isUnderWay rmX0_isUnderWay (mPc D (tyK cI cB cL) [.ref h0, .int p0] sz [(h0, .inr (0, [.ref h1])), (h1, .inl (cI, 256, .inl C))]) (mQi D w [(h0, .inr (0, [.ref h1])), (h1, .inl (cI, 256, .inl C))] (va_A [(h0, .inr (0, [.ref h1])), (h1, .inl (cI, 256, .inl C))] sz)) 0 0 (va_A [(h0, .inr (0, [.ref h1])), (h1, .inl (cI, 256, .inl C))] sz) := by
  refine m_of (Qf := mQi D w [(h0, .inr (0, [.ref h1])), (h1, .inl (cI, 256, .inl C))]) (cc := cX0_isUnderWay) (maxL := 2) (ret := (some .boolean)) (by decide) rfl (Nat.le_of_ble_eq_true rfl) ?_
  intro p e s m args below meth c A ls hsz hx hb hr hml hown hts hlocks hP hK hD hS hA hE hin hl Q hQ
  subst hsz
  have hl : lv_has ls 2 [(0, .ref h0), (1, .int p0)] := hl
  have hown : s.vm.findClass RX0 = some m.cls := hown
  have hl0 := hl
  have g18 : ∀ (H : Heap) (locs : List Loc) (ls : Array Slot), fX0_isUnderWay_18 = some w → va_P D vwCl [(h0, .inr (0, [.ref h1])), (h1, .inl (cI, 256, .inl C))] H → va_D A [(h0, .inr (0, [.ref h1])), (h1, .inl (cI, 256, .inl C))] → va_S A s.heap H locs → lv_has ls 2 [] → W p l e rmX0_isUnderWay s m args below meth c H locs 0 0 Q (F0 m 18 ls []) := by
    intro   H locs ls hf hP hD hS hl
    unfold fX0_isUnderWay_18 at hf
    refine lv_iconst (v := 1) hx hb dX0_isUnderWay_18 (by decide) ?_
    refine lv_goto (tgt := 23) hx hb dX0_isUnderWay_19 (by decide) ?_
    cases hf
    exact rt_z hQ hx hb hr rfl hlocks hP hD hS dX0_isUnderWay_23
  unfold fX0_isUnderWay at hf
  refine lv_aload_n hx hb dX0_isUnderWay_0 rfl (lv_at hl 0 rfl) ?_
  refine lv_iload_n hx hb dX0_isUnderWay_1 rfl (lv_at hl 1 rfl) ?_
  refine lv_iconst (v := 0) hx hb dX0_isUnderWay_2 (by decide) ?_
  obtain ⟨q, h_1, hf⟩ := bd_some hf
  obtain ⟨r_2, rfl⟩ : ∃ z, z = q := ⟨_, rfl⟩
  try dsimp only at hf
  refine cl_i (ws := [(h0, .inr (0, [.ref h1])), (h1, .inl (cI, 256, .inl C))]) (wc := [(h0, .inr (0, [.ref h1])), (h1, .inl (cI, 256, .inl C))]) (wr := []) (w1 := [(h0, .inr (0, [.ref h1])), (h1, .inl (cI, 256, .inl C))]) (ws' := [(h0, .inr (0, [.ref h1])), (h1, .inl (cI, 256, .inl C))]) hP hD hS hA [0, 1] [] [0, 1] rfl rfl (by decide) (by decide) rfl (by decide) (va_runV (As := [.int p0, .int 0]) (rest := []) ⟨hx, hb, hml, hown, hts⟩ (kX0_isWhere l D cI cB cL h0 h1 _ C p0 0 r_2 h_1) (cwV 2 hts gX0_isUnderWay_X0_isWhere rfl rfl rfl (by decide +kernel) ⟨Nat.le_of_ble_eq_true rfl, Nat.le_of_ble_eq_true rfl⟩) (pre_V (ci := 0) (q0 := 0) (T := TX0) (N := 1) hK hE hP hD hS hA [0, 1] rfl (by decide) rfl rfl) rfl rfl hl.1 rfl (lv_room (Nat.le_of_ble_eq_true rfl)) dX0_isUnderWay_3 ⟨Nat.le_of_ble_eq_true rfl, Nat.le_of_ble_eq_true rfl⟩) (fun H locs hP hD hS => ?_)
  refine lv_if_ne (tgt := 18) hx hb dX0_isUnderWay_6 (by decide) (fun c_3 => ?_) (fun c_3 => ?_)
  · have hf := br_neg c_3 hf
    exact g18   _ _ _ hf hP hD hS (lv_sub hl [] rfl)
  · have hf := br_pos c_3 hf
    refine lv_aload_n hx hb dX0_isUnderWay_9 rfl (lv_at hl 0 rfl) ?_
    refine lv_iload_n hx hb dX0_isUnderWay_10 rfl (lv_at hl 1 rfl) ?_
    refine lv_iconst (v := 1) hx hb dX0_isUnderWay_11 (by decide) ?_
    obtain ⟨q, h_4, hf⟩ := bd_some hf
    obtain ⟨r_5, rfl⟩ : ∃ z, z = q := ⟨_, rfl⟩
    try dsimp only at hf
    refine cl_i (ws := [(h0, .inr (0, [.ref h1])), (h1, .inl (cI, 256, .inl C))]) (wc := [(h0, .inr (0, [.ref h1])), (h1, .inl (cI, 256, .inl C))]) (wr := []) (w1 := [(h0, .inr (0, [.ref h1])), (h1, .inl (cI, 256, .inl C))]) (ws' := [(h0, .inr (0, [.ref h1])), (h1, .inl (cI, 256, .inl C))]) hP hD hS hA [0, 1] [] [0, 1] rfl rfl (by decide) (by decide) rfl (by decide) (va_runV (As := [.int p0, .int 1]) (rest := []) ⟨hx, hb, hml, hown, hts⟩ (kX0_isWhere l D cI cB cL h0 h1 _ C p0 1 r_5 h_4) (cwV 2 hts gX0_isUnderWay_X0_isWhere rfl rfl rfl (by decide +kernel) ⟨Nat.le_of_ble_eq_true rfl, Nat.le_of_ble_eq_true rfl⟩) (pre_V (ci := 0) (q0 := 0) (T := TX0) (N := 1) hK hE hP hD hS hA [0, 1] rfl (by decide) rfl rfl) rfl rfl hl.1 rfl (lv_room (Nat.le_of_ble_eq_true rfl)) dX0_isUnderWay_12 ⟨Nat.le_of_ble_eq_true rfl, Nat.le_of_ble_eq_true rfl⟩) (fun H locs hP hD hS => ?_)
    refine lv_if_eq (tgt := 22) hx hb dX0_isUnderWay_15 (by decide) (fun c_6 => ?_) (fun c_6 => ?_)
    · have hf := br_pos c_6 hf
      refine lv_iconst (v := 0) hx hb dX0_isUnderWay_22 (by decide) ?_
      cases hf
      exact rt_z hQ hx hb hr rfl hlocks hP hD hS dX0_isUnderWay_23
    · have hf := br_neg c_6 hf
      exact g18   _ _ _ hf hP hD hS (lv_sub hl [] rfl)
abbrev rmX0_setTaker : Room := ({ frames := 1, cells := 0, slots := 0, locals := 0 })
set_option maxHeartbeats 4000000 in
set_option maxRecDepth 100000 in
theorem kX0_setTaker (l : Launch) (D : va_G) (cI cB cL : ClassId) (h0 : Nat) (h1 : Nat) (sz : Nat) (C : Nat → Int32) (p0 : Int32) (p1 : Int32) (C' : Nat → Int32) (hf : fX0_setTaker C p0 p1 = some C') : Met l yX0_setTaker wsX0_setTaker rmX0_setTaker (mPc D (tyK cI cB cL) [.ref h0, .int p0, .int p1] sz [(h0, .inr (0, [.ref h1])), (h1, .inl (cI, 256, .inl C))]) (mQv D [(h0, .inr (0, [.ref h1])), (h1, .inl (cI, 256, .inl C'))] (va_A [(h0, .inr (0, [.ref h1])), (h1, .inl (cI, 256, .inl C))] sz)) 0 0 (va_A [(h0, .inr (0, [.ref h1])), (h1, .inl (cI, 256, .inl C))] sz) := by
  refine m_of (Qf := mQv D [(h0, .inr (0, [.ref h1])), (h1, .inl (cI, 256, .inl C'))]) (cc := cX0_setTaker) (maxL := 3) (ret := none) (by decide) rfl (Nat.le_of_ble_eq_true rfl) ?_
  intro p e s m args below meth c A ls hsz hx hb hr hml hown hts hlocks hP hK hD hS hA hE hin hl Q hQ
  subst hsz
  have hl : lv_has ls 3 [(0, .ref h0), (1, .int p0), (2, .int p1)] := hl
  have hown : s.vm.findClass RX0 = some m.cls := hown
  have iX0 : ∀ w ∈ u_ws RX0 TX0 1, w ∈ wsX0_setTaker := by decide +kernel
  unfold fX0_setTaker at hf
  refine lv_iload_n hx hb dX0_setTaker_0 rfl (lv_at hl 1 rfl) ?_
  refine lv_if_lt (tgt := 20) hx hb dX0_setTaker_1 (by decide) (fun c_1 => ?_) (fun c_1 => ?_)
  · have hf := br_pos c_1 hf
    cases hf
    exact rt_v hQ hx hb hr hlocks hP hD hS dX0_setTaker_20
  · have hf := br_neg c_1 hf
    refine lv_iload_n hx hb dX0_setTaker_4 rfl (lv_at hl 1 rfl) ?_
    refine lv_bipush (v := 36) hx hb dX0_setTaker_5 (by decide) ?_
    refine lv_icmp_ge (tgt := 20) hx hb dX0_setTaker_7 (by decide) (fun c_2 => ?_) (fun c_2 => ?_)
    · have hf := br_pos c_2 hf
      cases hf
      exact rt_v hQ hx hb hr hlocks hP hD hS dX0_setTaker_20
    · have hf := br_neg c_2 hf
      refine lv_aload_n hx hb dX0_setTaker_10 rfl (lv_at hl 0 rfl) ?_
      refine va_get (D := D) (ci := 0) (v := .ref h1) (C := RX0) (T := TX0) (N := 1) hx hb hts iX0 hown hK hP 0 rfl rfl 0 (by decide) (hts (.fieldLink RX0 9 "LongCaterpillars$House" "cells" "[I") (List.mem_of_getElem? (i := 1) rfl)) (fun _ h9 => h9) rfl dX0_setTaker_11 ?_
      refine lv_bipush (v := 40) hx hb dX0_setTaker_14 (by decide) ?_
      refine lv_iload_n hx hb dX0_setTaker_16 rfl (lv_at hl 1 rfl) ?_
      refine lv_iadd hx hb dX0_setTaker_17 ?_
      refine lv_iload_n hx hb dX0_setTaker_18 rfl (lv_at hl 2 rfl) ?_
      obtain ⟨i_3, hf⟩ := gd_some hf
      refine x_iast hx hb hK hP hD hS 1 0 rfl rfl i_3 _ rfl [(h0, .inr (0, [.ref h1])), (h1, .inl (cI, 256, .inl (upd C ((40 + p0).toNatClampNeg) p1)))] rfl dX0_setTaker_19 (fun H locs hP hD hS => ?_)
      cases hf
      exact rt_v hQ hx hb hr hlocks hP hD hS dX0_setTaker_20
abbrev rmX0_drawIn : Room := ({ frames := 2, cells := 0, slots := 0, locals := 23 })
set_option maxHeartbeats 4000000 in
set_option maxRecDepth 100000 in
theorem kX0_drawIn (l : Launch) (D : va_G) (cI cB cL : ClassId) (h0 : Nat) (h1 : Nat) (sz : Nat) (C : Nat → Int32) (p0 : Int32) (C' : Nat → Int32) (hf : fX0_drawIn C p0 = some C') : Met l yX0_drawIn wsX0_drawIn rmX0_drawIn (mPc D (tyK cI cB cL) [.ref h0, .int p0] sz [(h0, .inr (0, [.ref h1])), (h1, .inl (cI, 256, .inl C))]) (mQv D [(h0, .inr (0, [.ref h1])), (h1, .inl (cI, 256, .inl C'))] (va_A [(h0, .inr (0, [.ref h1])), (h1, .inl (cI, 256, .inl C))] sz)) 0 0 (va_A [(h0, .inr (0, [.ref h1])), (h1, .inl (cI, 256, .inl C))] sz) := by
  refine m_of (Qf := mQv D [(h0, .inr (0, [.ref h1])), (h1, .inl (cI, 256, .inl C'))]) (cc := cX0_drawIn) (maxL := 4) (ret := none) (by decide) rfl (Nat.le_of_ble_eq_true rfl) ?_
  intro p e s m args below meth c A ls hsz hx hb hr hml hown hts hlocks hP hK hD hS hA hE hin hl Q hQ
  subst hsz
  have hl : lv_has ls 4 [(0, .ref h0), (1, .int p0)] := hl
  have hown : s.vm.findClass RX0 = some m.cls := hown
  unfold fX0_drawIn at hf
  refine lv_aload_n hx hb dX0_drawIn_0 rfl (lv_at hl 0 rfl) ?_
  refine lv_iload_n hx hb dX0_drawIn_1 rfl (lv_at hl 1 rfl) ?_
  refine lv_iconst (v := 2) hx hb dX0_drawIn_2 (by decide) ?_
  obtain ⟨q, h_1, hf⟩ := bd_some hf
  obtain ⟨r_2, rfl⟩ : ∃ z, z = q := ⟨_, rfl⟩
  try dsimp only at hf
  refine cl_i (ws := [(h0, .inr (0, [.ref h1])), (h1, .inl (cI, 256, .inl C))]) (wc := [(h0, .inr (0, [.ref h1])), (h1, .inl (cI, 256, .inl C))]) (wr := []) (w1 := [(h0, .inr (0, [.ref h1])), (h1, .inl (cI, 256, .inl C))]) (ws' := [(h0, .inr (0, [.ref h1])), (h1, .inl (cI, 256, .inl C))]) hP hD hS hA [0, 1] [] [0, 1] rfl rfl (by decide) (by decide) rfl (by decide) (va_runV (As := [.int p0, .int 2]) (rest := []) ⟨hx, hb, hml, hown, hts⟩ (kX0_number l D cI cB cL h0 h1 _ C p0 2 r_2 h_1) (cwV 2 hts gX0_drawIn_X0_number rfl rfl rfl (by decide +kernel) ⟨Nat.le_of_ble_eq_true rfl, Nat.le_of_ble_eq_true rfl⟩) (pre_V (ci := 0) (q0 := 0) (T := TX0) (N := 1) hK hE hP hD hS hA [0, 1] rfl (by decide) rfl rfl) rfl rfl hl.1 rfl (lv_room (Nat.le_of_ble_eq_true rfl)) dX0_drawIn_3 ⟨Nat.le_of_ble_eq_true rfl, Nat.le_of_ble_eq_true rfl⟩) (fun H locs hP hD hS => ?_)
  refine lv_istore_n (lv' := [(2, .int r_2), (0, .ref h0), (1, .int p0)]) hx hb dX0_drawIn_6 rfl hl (by decide) rfl (fun ls hl => ?_)
  refine lv_iload_n hx hb dX0_drawIn_7 rfl (lv_at hl 0 rfl) ?_
  refine lv_if_le (tgt := 21) hx hb dX0_drawIn_8 (by decide) (fun c_3 => ?_) (fun c_3 => ?_)
  · have hf := br_pos c_3 hf
    refine lv_aload_n hx hb dX0_drawIn_21 rfl (lv_at hl 1 rfl) ?_
    refine lv_iload_n hx hb dX0_drawIn_22 rfl (lv_at hl 2 rfl) ?_
    refine lv_iconst (v := 1) hx hb dX0_drawIn_23 (by decide) ?_
    obtain ⟨q, h_4, hf⟩ := bd_some hf
    obtain ⟨r_5, rfl⟩ : ∃ z, z = q := ⟨_, rfl⟩
    try dsimp only at hf
    refine cl_i (ws := [(h0, .inr (0, [.ref h1])), (h1, .inl (cI, 256, .inl C))]) (wc := [(h0, .inr (0, [.ref h1])), (h1, .inl (cI, 256, .inl C))]) (wr := []) (w1 := [(h0, .inr (0, [.ref h1])), (h1, .inl (cI, 256, .inl C))]) (ws' := [(h0, .inr (0, [.ref h1])), (h1, .inl (cI, 256, .inl C))]) hP hD hS hA [0, 1] [] [0, 1] rfl rfl (by decide) (by decide) rfl (by decide) (va_runV (As := [.int p0, .int 1]) (rest := []) ⟨hx, hb, hml, hown, hts⟩ (kX0_number l D cI cB cL h0 h1 _ C p0 1 r_5 h_4) (cwV 2 hts gX0_drawIn_X0_number rfl rfl rfl (by decide +kernel) ⟨Nat.le_of_ble_eq_true rfl, Nat.le_of_ble_eq_true rfl⟩) (pre_V (ci := 0) (q0 := 0) (T := TX0) (N := 1) hK hE hP hD hS hA [0, 1] rfl (by decide) rfl rfl) rfl rfl hl.1 rfl (lv_room (Nat.le_of_ble_eq_true rfl)) dX0_drawIn_24 ⟨Nat.le_of_ble_eq_true rfl, Nat.le_of_ble_eq_true rfl⟩) (fun H locs hP hD hS => ?_)
    refine lv_istore_n (lv' := [(3, .int r_5), (2, .int r_2), (0, .ref h0), (1, .int p0)]) hx hb dX0_drawIn_27 rfl hl (by decide) rfl (fun ls hl => ?_)
    refine lv_aload_n hx hb dX0_drawIn_28 rfl (lv_at hl 2 rfl) ?_
    refine lv_aload_n hx hb dX0_drawIn_29 rfl (lv_at hl 2 rfl) ?_
    refine lv_iload_n hx hb dX0_drawIn_30 rfl (lv_at hl 3 rfl) ?_
    refine lv_bipush (v := 9) hx hb dX0_drawIn_31 (by decide) ?_
    refine lv_iload_n hx hb dX0_drawIn_33 rfl (lv_at hl 0 rfl) ?_
    refine lv_iadd hx hb dX0_drawIn_34 ?_
    refine lv_iconst (v := 1) hx hb dX0_drawIn_35 (by decide) ?_
    refine lv_isub hx hb dX0_drawIn_36 ?_
    obtain ⟨q, h_6, hf⟩ := bd_some hf
    obtain ⟨r_7, rfl⟩ : ∃ z, z = q := ⟨_, rfl⟩
    try dsimp only at hf
    refine cl_i (ws := [(h0, .inr (0, [.ref h1])), (h1, .inl (cI, 256, .inl C))]) (wc := [(h0, .inr (0, [.ref h1])), (h1, .inl (cI, 256, .inl C))]) (wr := []) (w1 := [(h0, .inr (0, [.ref h1])), (h1, .inl (cI, 256, .inl C))]) (ws' := [(h0, .inr (0, [.ref h1])), (h1, .inl (cI, 256, .inl C))]) hP hD hS hA [0, 1] [] [0, 1] rfl rfl (by decide) (by decide) rfl (by decide) (va_runV (As := [.int p0, .int ((9 + r_5) - 1)]) (rest := [.ref h0]) ⟨hx, hb, hml, hown, hts⟩ (kX0_number l D cI cB cL h0 h1 _ C p0 ((9 + r_5) - 1) r_7 h_6) (cwV 2 hts gX0_drawIn_X0_number rfl rfl rfl (by decide +kernel) ⟨Nat.le_of_ble_eq_true rfl, Nat.le_of_ble_eq_true rfl⟩) (pre_V (ci := 0) (q0 := 0) (T := TX0) (N := 1) hK hE hP hD hS hA [0, 1] rfl (by decide) rfl rfl) rfl rfl hl.1 rfl (lv_room (Nat.le_of_ble_eq_true rfl)) dX0_drawIn_37 ⟨Nat.le_of_ble_eq_true rfl, Nat.le_of_ble_eq_true rfl⟩) (fun H locs hP hD hS => ?_)
    refine lv_iconst (v := (-1)) hx hb dX0_drawIn_40 (by decide) ?_
    obtain ⟨q, h_8, hf⟩ := bd_some hf
    obtain ⟨C_9, rfl⟩ : ∃ z, z = q := ⟨_, rfl⟩
    try dsimp only at hf
    refine cl_v (ws := [(h0, .inr (0, [.ref h1])), (h1, .inl (cI, 256, .inl C))]) (wc := [(h0, .inr (0, [.ref h1])), (h1, .inl (cI, 256, .inl C))]) (wr := []) (w1 := [(h0, .inr (0, [.ref h1])), (h1, .inl (cI, 256, .inl C_9))]) (ws' := [(h0, .inr (0, [.ref h1])), (h1, .inl (cI, 256, .inl C_9))]) hP hD hS hA [0, 1] [] [0, 1] rfl rfl (by decide) (by decide) rfl (by decide) (va_runV (As := [.int r_7, .int (-1)]) (rest := []) ⟨hx, hb, hml, hown, hts⟩ (kX0_setTaker l D cI cB cL h0 h1 _ C r_7 (-1) C_9 h_8) (cwV 2 hts gX0_drawIn_X0_setTaker rfl rfl rfl (by decide +kernel) ⟨Nat.le_of_ble_eq_true rfl, Nat.le_of_ble_eq_true rfl⟩) (pre_V (ci := 0) (q0 := 0) (T := TX0) (N := 1) hK hE hP hD hS hA [0, 1] rfl (by decide) rfl rfl) rfl rfl hl.1 rfl (lv_room (Nat.le_of_ble_eq_true rfl)) dX0_drawIn_41 ⟨Nat.le_of_ble_eq_true rfl, Nat.le_of_ble_eq_true rfl⟩) (fun H locs hP hD hS => ?_)
    refine lv_aload_n hx hb dX0_drawIn_44 rfl (lv_at hl 2 rfl) ?_
    refine lv_iload_n hx hb dX0_drawIn_45 rfl (lv_at hl 3 rfl) ?_
    refine lv_iconst (v := 1) hx hb dX0_drawIn_46 (by decide) ?_
    refine lv_iload_n hx hb dX0_drawIn_47 rfl (lv_at hl 0 rfl) ?_
    refine lv_iconst (v := 1) hx hb dX0_drawIn_48 (by decide) ?_
    refine lv_isub hx hb dX0_drawIn_49 ?_
    obtain ⟨q, h_10, hf⟩ := bd_some hf
    obtain ⟨C_11, rfl⟩ : ∃ z, z = q := ⟨_, rfl⟩
    try dsimp only at hf
    refine cl_v (ws := [(h0, .inr (0, [.ref h1])), (h1, .inl (cI, 256, .inl C_9))]) (wc := [(h0, .inr (0, [.ref h1])), (h1, .inl (cI, 256, .inl C_9))]) (wr := []) (w1 := [(h0, .inr (0, [.ref h1])), (h1, .inl (cI, 256, .inl C_11))]) (ws' := [(h0, .inr (0, [.ref h1])), (h1, .inl (cI, 256, .inl C_11))]) hP hD hS hA [0, 1] [] [0, 1] rfl rfl (by decide) (by decide) rfl (by decide) (va_runV (As := [.int p0, .int 1, .int (r_5 - 1)]) (rest := []) ⟨hx, hb, hml, hown, hts⟩ (kX0_setNumber l D cI cB cL h0 h1 _ C_9 p0 1 (r_5 - 1) C_11 h_10) (cwV 3 hts gX0_drawIn_X0_setNumber rfl rfl rfl (by decide +kernel) ⟨Nat.le_of_ble_eq_true rfl, Nat.le_of_ble_eq_true rfl⟩) (pre_V (ci := 0) (q0 := 0) (T := TX0) (N := 1) hK hE hP hD hS hA [0, 1] rfl (by decide) rfl rfl) rfl rfl hl.1 rfl (lv_room (Nat.le_of_ble_eq_true rfl)) dX0_drawIn_50 ⟨Nat.le_of_ble_eq_true rfl, Nat.le_of_ble_eq_true rfl⟩) (fun H locs hP hD hS => ?_)
    cases hf
    exact rt_v hQ hx hb hr hlocks hP hD hS dX0_drawIn_53
  · have hf := br_neg c_3 hf
    refine lv_aload_n hx hb dX0_drawIn_11 rfl (lv_at hl 1 rfl) ?_
    refine lv_iload_n hx hb dX0_drawIn_12 rfl (lv_at hl 2 rfl) ?_
    refine lv_iconst (v := 2) hx hb dX0_drawIn_13 (by decide) ?_
    refine lv_iload_n hx hb dX0_drawIn_14 rfl (lv_at hl 0 rfl) ?_
    refine lv_iconst (v := 1) hx hb dX0_drawIn_15 (by decide) ?_
    refine lv_isub hx hb dX0_drawIn_16 ?_
    obtain ⟨q, h_12, hf⟩ := bd_some hf
    obtain ⟨C_13, rfl⟩ : ∃ z, z = q := ⟨_, rfl⟩
    try dsimp only at hf
    refine cl_v (ws := [(h0, .inr (0, [.ref h1])), (h1, .inl (cI, 256, .inl C))]) (wc := [(h0, .inr (0, [.ref h1])), (h1, .inl (cI, 256, .inl C))]) (wr := []) (w1 := [(h0, .inr (0, [.ref h1])), (h1, .inl (cI, 256, .inl C_13))]) (ws' := [(h0, .inr (0, [.ref h1])), (h1, .inl (cI, 256, .inl C_13))]) hP hD hS hA [0, 1] [] [0, 1] rfl rfl (by decide) (by decide) rfl (by decide) (va_runV (As := [.int p0, .int 2, .int (r_2 - 1)]) (rest := []) ⟨hx, hb, hml, hown, hts⟩ (kX0_setNumber l D cI cB cL h0 h1 _ C p0 2 (r_2 - 1) C_13 h_12) (cwV 3 hts gX0_drawIn_X0_setNumber rfl rfl rfl (by decide +kernel) ⟨Nat.le_of_ble_eq_true rfl, Nat.le_of_ble_eq_true rfl⟩) (pre_V (ci := 0) (q0 := 0) (T := TX0) (N := 1) hK hE hP hD hS hA [0, 1] rfl (by decide) rfl rfl) rfl rfl hl.1 rfl (lv_room (Nat.le_of_ble_eq_true rfl)) dX0_drawIn_17 ⟨Nat.le_of_ble_eq_true rfl, Nat.le_of_ble_eq_true rfl⟩) (fun H locs hP hD hS => ?_)
    cases hf
    exact rt_v hQ hx hb hr hlocks hP hD hS dX0_drawIn_20
abbrev rmX0_eatOnePart : Room := ({ frames := 2, cells := 0, slots := 0, locals := 23 })
set_option maxHeartbeats 4000000 in
set_option maxRecDepth 100000 in
theorem kX0_eatOnePart (l : Launch) (D : va_G) (cI cB cL : ClassId) (h0 : Nat) (h1 : Nat) (sz : Nat) (C : Nat → Int32) (p0 : Int32) (C' : Nat → Int32) (hf : fX0_eatOnePart C p0 = some C') : Met l yX0_eatOnePart wsX0_eatOnePart rmX0_eatOnePart (mPc D (tyK cI cB cL) [.ref h0, .int p0] sz [(h0, .inr (0, [.ref h1])), (h1, .inl (cI, 256, .inl C))]) (mQv D [(h0, .inr (0, [.ref h1])), (h1, .inl (cI, 256, .inl C'))] (va_A [(h0, .inr (0, [.ref h1])), (h1, .inl (cI, 256, .inl C))] sz)) 0 0 (va_A [(h0, .inr (0, [.ref h1])), (h1, .inl (cI, 256, .inl C))] sz) := by
  refine m_of (Qf := mQv D [(h0, .inr (0, [.ref h1])), (h1, .inl (cI, 256, .inl C'))]) (cc := cX0_eatOnePart) (maxL := 2) (ret := none) (by decide) rfl (Nat.le_of_ble_eq_true rfl) ?_
  intro p e s m args below meth c A ls hsz hx hb hr hml hown hts hlocks hP hK hD hS hA hE hin hl Q hQ
  subst hsz
  have hl : lv_has ls 2 [(0, .ref h0), (1, .int p0)] := hl
  have hown : s.vm.findClass RX0 = some m.cls := hown
  have iX0 : ∀ w ∈ u_ws RX0 TX0 1, w ∈ wsX0_eatOnePart := by decide +kernel
  unfold fX0_eatOnePart at hf
  refine lv_aload_n hx hb dX0_eatOnePart_0 rfl (lv_at hl 0 rfl) ?_
  refine lv_iload_n hx hb dX0_eatOnePart_1 rfl (lv_at hl 1 rfl) ?_
  refine lv_iconst (v := 3) hx hb dX0_eatOnePart_2 (by decide) ?_
  refine lv_aload_n hx hb dX0_eatOnePart_3 rfl (lv_at hl 0 rfl) ?_
  refine lv_iload_n hx hb dX0_eatOnePart_4 rfl (lv_at hl 1 rfl) ?_
  refine lv_iconst (v := 3) hx hb dX0_eatOnePart_5 (by decide) ?_
  obtain ⟨q, h_1, hf⟩ := bd_some hf
  obtain ⟨r_2, rfl⟩ : ∃ z, z = q := ⟨_, rfl⟩
  try dsimp only at hf
  refine cl_i (ws := [(h0, .inr (0, [.ref h1])), (h1, .inl (cI, 256, .inl C))]) (wc := [(h0, .inr (0, [.ref h1])), (h1, .inl (cI, 256, .inl C))]) (wr := []) (w1 := [(h0, .inr (0, [.ref h1])), (h1, .inl (cI, 256, .inl C))]) (ws' := [(h0, .inr (0, [.ref h1])), (h1, .inl (cI, 256, .inl C))]) hP hD hS hA [0, 1] [] [0, 1] rfl rfl (by decide) (by decide) rfl (by decide) (va_runV (As := [.int p0, .int 3]) (rest := [.int 3, .int p0, .ref h0]) ⟨hx, hb, hml, hown, hts⟩ (kX0_number l D cI cB cL h0 h1 _ C p0 3 r_2 h_1) (cwV 2 hts gX0_eatOnePart_X0_number rfl rfl rfl (by decide +kernel) ⟨Nat.le_of_ble_eq_true rfl, Nat.le_of_ble_eq_true rfl⟩) (pre_V (ci := 0) (q0 := 0) (T := TX0) (N := 1) hK hE hP hD hS hA [0, 1] rfl (by decide) rfl rfl) rfl rfl hl.1 rfl (lv_room (Nat.le_of_ble_eq_true rfl)) dX0_eatOnePart_6 ⟨Nat.le_of_ble_eq_true rfl, Nat.le_of_ble_eq_true rfl⟩) (fun H locs hP hD hS => ?_)
  refine lv_iconst (v := 1) hx hb dX0_eatOnePart_9 (by decide) ?_
  refine lv_iadd hx hb dX0_eatOnePart_10 ?_
  obtain ⟨q, h_3, hf⟩ := bd_some hf
  obtain ⟨C_4, rfl⟩ : ∃ z, z = q := ⟨_, rfl⟩
  try dsimp only at hf
  refine cl_v (ws := [(h0, .inr (0, [.ref h1])), (h1, .inl (cI, 256, .inl C))]) (wc := [(h0, .inr (0, [.ref h1])), (h1, .inl (cI, 256, .inl C))]) (wr := []) (w1 := [(h0, .inr (0, [.ref h1])), (h1, .inl (cI, 256, .inl C_4))]) (ws' := [(h0, .inr (0, [.ref h1])), (h1, .inl (cI, 256, .inl C_4))]) hP hD hS hA [0, 1] [] [0, 1] rfl rfl (by decide) (by decide) rfl (by decide) (va_runV (As := [.int p0, .int 3, .int (r_2 + 1)]) (rest := []) ⟨hx, hb, hml, hown, hts⟩ (kX0_setNumber l D cI cB cL h0 h1 _ C p0 3 (r_2 + 1) C_4 h_3) (cwV 3 hts gX0_eatOnePart_X0_setNumber rfl rfl rfl (by decide +kernel) ⟨Nat.le_of_ble_eq_true rfl, Nat.le_of_ble_eq_true rfl⟩) (pre_V (ci := 0) (q0 := 0) (T := TX0) (N := 1) hK hE hP hD hS hA [0, 1] rfl (by decide) rfl rfl) rfl rfl hl.1 rfl (lv_room (Nat.le_of_ble_eq_true rfl)) dX0_eatOnePart_11 ⟨Nat.le_of_ble_eq_true rfl, Nat.le_of_ble_eq_true rfl⟩) (fun H locs hP hD hS => ?_)
  refine lv_aload_n hx hb dX0_eatOnePart_14 rfl (lv_at hl 0 rfl) ?_
  refine lv_iload_n hx hb dX0_eatOnePart_15 rfl (lv_at hl 1 rfl) ?_
  refine lv_iconst (v := 1) hx hb dX0_eatOnePart_16 (by decide) ?_
  obtain ⟨q, h_5, hf⟩ := bd_some hf
  obtain ⟨r_6, rfl⟩ : ∃ z, z = q := ⟨_, rfl⟩
  try dsimp only at hf
  refine cl_i (ws := [(h0, .inr (0, [.ref h1])), (h1, .inl (cI, 256, .inl C_4))]) (wc := [(h0, .inr (0, [.ref h1])), (h1, .inl (cI, 256, .inl C_4))]) (wr := []) (w1 := [(h0, .inr (0, [.ref h1])), (h1, .inl (cI, 256, .inl C_4))]) (ws' := [(h0, .inr (0, [.ref h1])), (h1, .inl (cI, 256, .inl C_4))]) hP hD hS hA [0, 1] [] [0, 1] rfl rfl (by decide) (by decide) rfl (by decide) (va_runV (As := [.int p0, .int 1]) (rest := []) ⟨hx, hb, hml, hown, hts⟩ (kX0_number l D cI cB cL h0 h1 _ C_4 p0 1 r_6 h_5) (cwV 2 hts gX0_eatOnePart_X0_number rfl rfl rfl (by decide +kernel) ⟨Nat.le_of_ble_eq_true rfl, Nat.le_of_ble_eq_true rfl⟩) (pre_V (ci := 0) (q0 := 0) (T := TX0) (N := 1) hK hE hP hD hS hA [0, 1] rfl (by decide) rfl rfl) rfl rfl hl.1 rfl (lv_room (Nat.le_of_ble_eq_true rfl)) dX0_eatOnePart_17 ⟨Nat.le_of_ble_eq_true rfl, Nat.le_of_ble_eq_true rfl⟩) (fun H locs hP hD hS => ?_)
  refine lv_if_ne (tgt := 42) hx hb dX0_eatOnePart_20 (by decide) (fun c_7 => ?_) (fun c_7 => ?_)
  · have hf := br_neg c_7 hf
    cases hf
    exact rt_v hQ hx hb hr hlocks hP hD hS dX0_eatOnePart_42
  · have hf := br_pos c_7 hf
    refine lv_aload_n hx hb dX0_eatOnePart_23 rfl (lv_at hl 0 rfl) ?_
    refine lv_iload_n hx hb dX0_eatOnePart_24 rfl (lv_at hl 1 rfl) ?_
    refine lv_iconst (v := 0) hx hb dX0_eatOnePart_25 (by decide) ?_
    refine lv_iconst (v := 2) hx hb dX0_eatOnePart_26 (by decide) ?_
    obtain ⟨q, h_8, hf⟩ := bd_some hf
    obtain ⟨C_9, rfl⟩ : ∃ z, z = q := ⟨_, rfl⟩
    try dsimp only at hf
    refine cl_v (ws := [(h0, .inr (0, [.ref h1])), (h1, .inl (cI, 256, .inl C_4))]) (wc := [(h0, .inr (0, [.ref h1])), (h1, .inl (cI, 256, .inl C_4))]) (wr := []) (w1 := [(h0, .inr (0, [.ref h1])), (h1, .inl (cI, 256, .inl C_9))]) (ws' := [(h0, .inr (0, [.ref h1])), (h1, .inl (cI, 256, .inl C_9))]) hP hD hS hA [0, 1] [] [0, 1] rfl rfl (by decide) (by decide) rfl (by decide) (va_runV (As := [.int p0, .int 0, .int 2]) (rest := []) ⟨hx, hb, hml, hown, hts⟩ (kX0_setNumber l D cI cB cL h0 h1 _ C_4 p0 0 2 C_9 h_8) (cwV 3 hts gX0_eatOnePart_X0_setNumber rfl rfl rfl (by decide +kernel) ⟨Nat.le_of_ble_eq_true rfl, Nat.le_of_ble_eq_true rfl⟩) (pre_V (ci := 0) (q0 := 0) (T := TX0) (N := 1) hK hE hP hD hS hA [0, 1] rfl (by decide) rfl rfl) rfl rfl hl.1 rfl (lv_room (Nat.le_of_ble_eq_true rfl)) dX0_eatOnePart_27 ⟨Nat.le_of_ble_eq_true rfl, Nat.le_of_ble_eq_true rfl⟩) (fun H locs hP hD hS => ?_)
    refine lv_aload_n hx hb dX0_eatOnePart_30 rfl (lv_at hl 0 rfl) ?_
    refine lv_iload_n hx hb dX0_eatOnePart_31 rfl (lv_at hl 1 rfl) ?_
    refine lv_iconst (v := 5) hx hb dX0_eatOnePart_32 (by decide) ?_
    refine lv_aload_n hx hb dX0_eatOnePart_33 rfl (lv_at hl 0 rfl) ?_
    refine va_get (D := D) (ci := 0) (v := .ref h1) (C := RX0) (T := TX0) (N := 1) hx hb hts iX0 hown hK hP 0 rfl rfl 0 (by decide) (hts (.fieldLink RX0 9 "LongCaterpillars$House" "cells" "[I") (List.mem_of_getElem? (i := 1) rfl)) (fun _ h9 => h9) rfl dX0_eatOnePart_34 ?_
    refine lv_iconst (v := 2) hx hb dX0_eatOnePart_37 (by decide) ?_
    refine x_iald hx hb hK hP 1 0 rfl rfl (vl rfl) 2 rfl dX0_eatOnePart_38 ?_
    obtain ⟨q, h_10, hf⟩ := bd_some hf
    obtain ⟨C_11, rfl⟩ : ∃ z, z = q := ⟨_, rfl⟩
    try dsimp only at hf
    refine cl_v (ws := [(h0, .inr (0, [.ref h1])), (h1, .inl (cI, 256, .inl C_9))]) (wc := [(h0, .inr (0, [.ref h1])), (h1, .inl (cI, 256, .inl C_9))]) (wr := []) (w1 := [(h0, .inr (0, [.ref h1])), (h1, .inl (cI, 256, .inl C_11))]) (ws' := [(h0, .inr (0, [.ref h1])), (h1, .inl (cI, 256, .inl C_11))]) hP hD hS hA [0, 1] [] [0, 1] rfl rfl (by decide) (by decide) rfl (by decide) (va_runV (As := [.int p0, .int 5, .int (C_9 2)]) (rest := []) ⟨hx, hb, hml, hown, hts⟩ (kX0_setNumber l D cI cB cL h0 h1 _ C_9 p0 5 (C_9 2) C_11 h_10) (cwV 3 hts gX0_eatOnePart_X0_setNumber rfl rfl rfl (by decide +kernel) ⟨Nat.le_of_ble_eq_true rfl, Nat.le_of_ble_eq_true rfl⟩) (pre_V (ci := 0) (q0 := 0) (T := TX0) (N := 1) hK hE hP hD hS hA [0, 1] rfl (by decide) rfl rfl) rfl rfl hl.1 rfl (lv_room (Nat.le_of_ble_eq_true rfl)) dX0_eatOnePart_39 ⟨Nat.le_of_ble_eq_true rfl, Nat.le_of_ble_eq_true rfl⟩) (fun H locs hP hD hS => ?_)
    cases hf
    exact rt_v hQ hx hb hr hlocks hP hD hS dX0_eatOnePart_42
abbrev rmX0_putHead : Room := ({ frames := 2, cells := 0, slots := 0, locals := 23 })
set_option maxHeartbeats 4000000 in
set_option maxRecDepth 100000 in
theorem kX0_putHead (l : Launch) (D : va_G) (cI cB cL : ClassId) (h0 : Nat) (h1 : Nat) (sz : Nat) (C : Nat → Int32) (p0 : Int32) (p1 : Int32) (C' : Nat → Int32) (hf : fX0_putHead C p0 p1 = some C') : Met l yX0_putHead wsX0_putHead rmX0_putHead (mPc D (tyK cI cB cL) [.ref h0, .int p0, .int p1] sz [(h0, .inr (0, [.ref h1])), (h1, .inl (cI, 256, .inl C))]) (mQv D [(h0, .inr (0, [.ref h1])), (h1, .inl (cI, 256, .inl C'))] (va_A [(h0, .inr (0, [.ref h1])), (h1, .inl (cI, 256, .inl C))] sz)) 0 0 (va_A [(h0, .inr (0, [.ref h1])), (h1, .inl (cI, 256, .inl C))] sz) := by
  refine m_of (Qf := mQv D [(h0, .inr (0, [.ref h1])), (h1, .inl (cI, 256, .inl C'))]) (cc := cX0_putHead) (maxL := 5) (ret := none) (by decide) rfl (Nat.le_of_ble_eq_true rfl) ?_
  intro p e s m args below meth c A ls hsz hx hb hr hml hown hts hlocks hP hK hD hS hA hE hin hl Q hQ
  subst hsz
  have hl : lv_has ls 5 [(0, .ref h0), (1, .int p0), (2, .int p1)] := hl
  have hown : s.vm.findClass RX0 = some m.cls := hown
  have hl0 := hl
  have g10 : ∀ (n : Nat) (v3 : Int32) (v4 : Int32) (C : Nat → Int32) (H : Heap) (locs : List Loc) (ls : Array Slot), fX0_putHead_10 p0 p1 n v3 v4 C = some C' → va_P D vwCl [(h0, .inr (0, [.ref h1])), (h1, .inl (cI, 256, .inl C))] H → va_D A [(h0, .inr (0, [.ref h1])), (h1, .inl (cI, 256, .inl C))] → va_S A s.heap H locs → lv_has ls 5 [(0, .ref h0), (1, .int p0), (2, .int p1), (3, .int v3), (4, .int v4)] → W p l e rmX0_putHead s m args below meth c H locs 0 0 Q (F0 m 10 ls []) := by
    intro  n
    induction n with
    | zero =>
      intro v3 v4 C H locs ls hf
      exact absurd hf (by rw [fX0_putHead_10]; simp)
    | succ n ih =>
      intro v3 v4 C H locs ls hf hP hD hS hl
      rw [fX0_putHead_10] at hf
      refine lv_iload hx hb dX0_putHead_10 (lv_at hl 4 rfl) ?_
      refine lv_if_le (tgt := 43) hx hb dX0_putHead_12 (by decide) (fun c_1 => ?_) (fun c_1 => ?_)
      · have hf := br_pos c_1 hf
        refine lv_aload_n hx hb dX0_putHead_43 rfl (lv_at hl 0 rfl) ?_
        refine lv_iload_n hx hb dX0_putHead_44 rfl (lv_at hl 1 rfl) ?_
        refine lv_bipush (v := 9) hx hb dX0_putHead_45 (by decide) ?_
        refine lv_iload_n hx hb dX0_putHead_47 rfl (lv_at hl 2 rfl) ?_
        obtain ⟨q, h_2, hf⟩ := bd_some hf
        obtain ⟨C_3, rfl⟩ : ∃ z, z = q := ⟨_, rfl⟩
        try dsimp only at hf
        refine cl_v (ws := [(h0, .inr (0, [.ref h1])), (h1, .inl (cI, 256, .inl C))]) (wc := [(h0, .inr (0, [.ref h1])), (h1, .inl (cI, 256, .inl C))]) (wr := []) (w1 := [(h0, .inr (0, [.ref h1])), (h1, .inl (cI, 256, .inl C_3))]) (ws' := [(h0, .inr (0, [.ref h1])), (h1, .inl (cI, 256, .inl C_3))]) hP hD hS hA [0, 1] [] [0, 1] rfl rfl (by decide) (by decide) rfl (by decide) (va_runV (As := [.int p0, .int 9, .int p1]) (rest := []) ⟨hx, hb, hml, hown, hts⟩ (kX0_setNumber l D cI cB cL h0 h1 _ C p0 9 p1 C_3 h_2) (cwV 3 hts gX0_putHead_X0_setNumber rfl rfl rfl (by decide +kernel) ⟨Nat.le_of_ble_eq_true rfl, Nat.le_of_ble_eq_true rfl⟩) (pre_V (ci := 0) (q0 := 0) (T := TX0) (N := 1) hK hE hP hD hS hA [0, 1] rfl (by decide) rfl rfl) rfl rfl hl.1 rfl (lv_room (Nat.le_of_ble_eq_true rfl)) dX0_putHead_48 ⟨Nat.le_of_ble_eq_true rfl, Nat.le_of_ble_eq_true rfl⟩) (fun H locs hP hD hS => ?_)
        refine lv_aload_n hx hb dX0_putHead_51 rfl (lv_at hl 0 rfl) ?_
        refine lv_iload_n hx hb dX0_putHead_52 rfl (lv_at hl 1 rfl) ?_
        refine lv_iconst (v := 1) hx hb dX0_putHead_53 (by decide) ?_
        refine lv_iload_n hx hb dX0_putHead_54 rfl (lv_at hl 3 rfl) ?_
        refine lv_iconst (v := 1) hx hb dX0_putHead_55 (by decide) ?_
        refine lv_iadd hx hb dX0_putHead_56 ?_
        obtain ⟨q, h_4, hf⟩ := bd_some hf
        obtain ⟨C_5, rfl⟩ : ∃ z, z = q := ⟨_, rfl⟩
        try dsimp only at hf
        refine cl_v (ws := [(h0, .inr (0, [.ref h1])), (h1, .inl (cI, 256, .inl C_3))]) (wc := [(h0, .inr (0, [.ref h1])), (h1, .inl (cI, 256, .inl C_3))]) (wr := []) (w1 := [(h0, .inr (0, [.ref h1])), (h1, .inl (cI, 256, .inl C_5))]) (ws' := [(h0, .inr (0, [.ref h1])), (h1, .inl (cI, 256, .inl C_5))]) hP hD hS hA [0, 1] [] [0, 1] rfl rfl (by decide) (by decide) rfl (by decide) (va_runV (As := [.int p0, .int 1, .int (v3 + 1)]) (rest := []) ⟨hx, hb, hml, hown, hts⟩ (kX0_setNumber l D cI cB cL h0 h1 _ C_3 p0 1 (v3 + 1) C_5 h_4) (cwV 3 hts gX0_putHead_X0_setNumber rfl rfl rfl (by decide +kernel) ⟨Nat.le_of_ble_eq_true rfl, Nat.le_of_ble_eq_true rfl⟩) (pre_V (ci := 0) (q0 := 0) (T := TX0) (N := 1) hK hE hP hD hS hA [0, 1] rfl (by decide) rfl rfl) rfl rfl hl.1 rfl (lv_room (Nat.le_of_ble_eq_true rfl)) dX0_putHead_57 ⟨Nat.le_of_ble_eq_true rfl, Nat.le_of_ble_eq_true rfl⟩) (fun H locs hP hD hS => ?_)
        refine lv_aload_n hx hb dX0_putHead_60 rfl (lv_at hl 0 rfl) ?_
        refine lv_iload_n hx hb dX0_putHead_61 rfl (lv_at hl 1 rfl) ?_
        refine lv_iconst (v := 0) hx hb dX0_putHead_62 (by decide) ?_
        refine lv_iconst (v := 1) hx hb dX0_putHead_63 (by decide) ?_
        obtain ⟨q, h_6, hf⟩ := bd_some hf
        obtain ⟨C_7, rfl⟩ : ∃ z, z = q := ⟨_, rfl⟩
        try dsimp only at hf
        refine cl_v (ws := [(h0, .inr (0, [.ref h1])), (h1, .inl (cI, 256, .inl C_5))]) (wc := [(h0, .inr (0, [.ref h1])), (h1, .inl (cI, 256, .inl C_5))]) (wr := []) (w1 := [(h0, .inr (0, [.ref h1])), (h1, .inl (cI, 256, .inl C_7))]) (ws' := [(h0, .inr (0, [.ref h1])), (h1, .inl (cI, 256, .inl C_7))]) hP hD hS hA [0, 1] [] [0, 1] rfl rfl (by decide) (by decide) rfl (by decide) (va_runV (As := [.int p0, .int 0, .int 1]) (rest := []) ⟨hx, hb, hml, hown, hts⟩ (kX0_setNumber l D cI cB cL h0 h1 _ C_5 p0 0 1 C_7 h_6) (cwV 3 hts gX0_putHead_X0_setNumber rfl rfl rfl (by decide +kernel) ⟨Nat.le_of_ble_eq_true rfl, Nat.le_of_ble_eq_true rfl⟩) (pre_V (ci := 0) (q0 := 0) (T := TX0) (N := 1) hK hE hP hD hS hA [0, 1] rfl (by decide) rfl rfl) rfl rfl hl.1 rfl (lv_room (Nat.le_of_ble_eq_true rfl)) dX0_putHead_64 ⟨Nat.le_of_ble_eq_true rfl, Nat.le_of_ble_eq_true rfl⟩) (fun H locs hP hD hS => ?_)
        refine lv_aload_n hx hb dX0_putHead_67 rfl (lv_at hl 0 rfl) ?_
        refine lv_iload_n hx hb dX0_putHead_68 rfl (lv_at hl 2 rfl) ?_
        refine lv_iload_n hx hb dX0_putHead_69 rfl (lv_at hl 1 rfl) ?_
        obtain ⟨q, h_8, hf⟩ := bd_some hf
        obtain ⟨C_9, rfl⟩ : ∃ z, z = q := ⟨_, rfl⟩
        try dsimp only at hf
        refine cl_v (ws := [(h0, .inr (0, [.ref h1])), (h1, .inl (cI, 256, .inl C_7))]) (wc := [(h0, .inr (0, [.ref h1])), (h1, .inl (cI, 256, .inl C_7))]) (wr := []) (w1 := [(h0, .inr (0, [.ref h1])), (h1, .inl (cI, 256, .inl C_9))]) (ws' := [(h0, .inr (0, [.ref h1])), (h1, .inl (cI, 256, .inl C_9))]) hP hD hS hA [0, 1] [] [0, 1] rfl rfl (by decide) (by decide) rfl (by decide) (va_runV (As := [.int p1, .int p0]) (rest := []) ⟨hx, hb, hml, hown, hts⟩ (kX0_setTaker l D cI cB cL h0 h1 _ C_7 p1 p0 C_9 h_8) (cwV 2 hts gX0_putHead_X0_setTaker rfl rfl rfl (by decide +kernel) ⟨Nat.le_of_ble_eq_true rfl, Nat.le_of_ble_eq_true rfl⟩) (pre_V (ci := 0) (q0 := 0) (T := TX0) (N := 1) hK hE hP hD hS hA [0, 1] rfl (by decide) rfl rfl) rfl rfl hl.1 rfl (lv_room (Nat.le_of_ble_eq_true rfl)) dX0_putHead_70 ⟨Nat.le_of_ble_eq_true rfl, Nat.le_of_ble_eq_true rfl⟩) (fun H locs hP hD hS => ?_)
        cases hf
        exact rt_v hQ hx hb hr hlocks hP hD hS dX0_putHead_73
      · have hf := br_neg c_1 hf
        refine lv_aload_n hx hb dX0_putHead_15 rfl (lv_at hl 0 rfl) ?_
        refine lv_iload_n hx hb dX0_putHead_16 rfl (lv_at hl 1 rfl) ?_
        refine lv_bipush (v := 9) hx hb dX0_putHead_17 (by decide) ?_
        refine lv_iload hx hb dX0_putHead_19 (lv_at hl 4 rfl) ?_
        refine lv_iadd hx hb dX0_putHead_21 ?_
        refine lv_aload_n hx hb dX0_putHead_22 rfl (lv_at hl 0 rfl) ?_
        refine lv_iload_n hx hb dX0_putHead_23 rfl (lv_at hl 1 rfl) ?_
        refine lv_bipush (v := 9) hx hb dX0_putHead_24 (by decide) ?_
        refine lv_iload hx hb dX0_putHead_26 (lv_at hl 4 rfl) ?_
        refine lv_iadd hx hb dX0_putHead_28 ?_
        refine lv_iconst (v := 1) hx hb dX0_putHead_29 (by decide) ?_
        refine lv_isub hx hb dX0_putHead_30 ?_
        obtain ⟨q, h_10, hf⟩ := bd_some hf
        obtain ⟨r_11, rfl⟩ : ∃ z, z = q := ⟨_, rfl⟩
        try dsimp only at hf
        refine cl_i (ws := [(h0, .inr (0, [.ref h1])), (h1, .inl (cI, 256, .inl C))]) (wc := [(h0, .inr (0, [.ref h1])), (h1, .inl (cI, 256, .inl C))]) (wr := []) (w1 := [(h0, .inr (0, [.ref h1])), (h1, .inl (cI, 256, .inl C))]) (ws' := [(h0, .inr (0, [.ref h1])), (h1, .inl (cI, 256, .inl C))]) hP hD hS hA [0, 1] [] [0, 1] rfl rfl (by decide) (by decide) rfl (by decide) (va_runV (As := [.int p0, .int ((9 + v4) - 1)]) (rest := [.int (9 + v4), .int p0, .ref h0]) ⟨hx, hb, hml, hown, hts⟩ (kX0_number l D cI cB cL h0 h1 _ C p0 ((9 + v4) - 1) r_11 h_10) (cwV 2 hts gX0_putHead_X0_number rfl rfl rfl (by decide +kernel) ⟨Nat.le_of_ble_eq_true rfl, Nat.le_of_ble_eq_true rfl⟩) (pre_V (ci := 0) (q0 := 0) (T := TX0) (N := 1) hK hE hP hD hS hA [0, 1] rfl (by decide) rfl rfl) rfl rfl hl.1 rfl (lv_room (Nat.le_of_ble_eq_true rfl)) dX0_putHead_31 ⟨Nat.le_of_ble_eq_true rfl, Nat.le_of_ble_eq_true rfl⟩) (fun H locs hP hD hS => ?_)
        obtain ⟨q, h_12, hf⟩ := bd_some hf
        obtain ⟨C_13, rfl⟩ : ∃ z, z = q := ⟨_, rfl⟩
        try dsimp only at hf
        refine cl_v (ws := [(h0, .inr (0, [.ref h1])), (h1, .inl (cI, 256, .inl C))]) (wc := [(h0, .inr (0, [.ref h1])), (h1, .inl (cI, 256, .inl C))]) (wr := []) (w1 := [(h0, .inr (0, [.ref h1])), (h1, .inl (cI, 256, .inl C_13))]) (ws' := [(h0, .inr (0, [.ref h1])), (h1, .inl (cI, 256, .inl C_13))]) hP hD hS hA [0, 1] [] [0, 1] rfl rfl (by decide) (by decide) rfl (by decide) (va_runV (As := [.int p0, .int (9 + v4), .int r_11]) (rest := []) ⟨hx, hb, hml, hown, hts⟩ (kX0_setNumber l D cI cB cL h0 h1 _ C p0 (9 + v4) r_11 C_13 h_12) (cwV 3 hts gX0_putHead_X0_setNumber rfl rfl rfl (by decide +kernel) ⟨Nat.le_of_ble_eq_true rfl, Nat.le_of_ble_eq_true rfl⟩) (pre_V (ci := 0) (q0 := 0) (T := TX0) (N := 1) hK hE hP hD hS hA [0, 1] rfl (by decide) rfl rfl) rfl rfl hl.1 rfl (lv_room (Nat.le_of_ble_eq_true rfl)) dX0_putHead_34 ⟨Nat.le_of_ble_eq_true rfl, Nat.le_of_ble_eq_true rfl⟩) (fun H locs hP hD hS => ?_)
        refine lv_iinc (v := (v4 + (-1))) (lv' := [(4, .int (v4 + (-1))), (0, .ref h0), (1, .int p0), (2, .int p1), (3, .int v3)]) hx hb dX0_putHead_37 hl (k := 4) rfl rfl (by decide) rfl (fun ls hl => ?_)
        refine lv_goto (tgt := 10) hx hb dX0_putHead_40 (by decide) ?_
        exact ih v3 (v4 + (-1)) C_13 _ _ _ hf hP hD hS (lv_sub hl [1, 2, 3, 4, 0] rfl)
  unfold fX0_putHead at hf
  refine lv_aload_n hx hb dX0_putHead_0 rfl (lv_at hl 0 rfl) ?_
  refine lv_iload_n hx hb dX0_putHead_1 rfl (lv_at hl 1 rfl) ?_
  refine lv_iconst (v := 1) hx hb dX0_putHead_2 (by decide) ?_
  obtain ⟨q, h_14, hf⟩ := bd_some hf
  obtain ⟨r_15, rfl⟩ : ∃ z, z = q := ⟨_, rfl⟩
  try dsimp only at hf
  refine cl_i (ws := [(h0, .inr (0, [.ref h1])), (h1, .inl (cI, 256, .inl C))]) (wc := [(h0, .inr (0, [.ref h1])), (h1, .inl (cI, 256, .inl C))]) (wr := []) (w1 := [(h0, .inr (0, [.ref h1])), (h1, .inl (cI, 256, .inl C))]) (ws' := [(h0, .inr (0, [.ref h1])), (h1, .inl (cI, 256, .inl C))]) hP hD hS hA [0, 1] [] [0, 1] rfl rfl (by decide) (by decide) rfl (by decide) (va_runV (As := [.int p0, .int 1]) (rest := []) ⟨hx, hb, hml, hown, hts⟩ (kX0_number l D cI cB cL h0 h1 _ C p0 1 r_15 h_14) (cwV 2 hts gX0_putHead_X0_number rfl rfl rfl (by decide +kernel) ⟨Nat.le_of_ble_eq_true rfl, Nat.le_of_ble_eq_true rfl⟩) (pre_V (ci := 0) (q0 := 0) (T := TX0) (N := 1) hK hE hP hD hS hA [0, 1] rfl (by decide) rfl rfl) rfl rfl hl.1 rfl (lv_room (Nat.le_of_ble_eq_true rfl)) dX0_putHead_3 ⟨Nat.le_of_ble_eq_true rfl, Nat.le_of_ble_eq_true rfl⟩) (fun H locs hP hD hS => ?_)
  refine lv_istore_n (lv' := [(3, .int r_15), (0, .ref h0), (1, .int p0), (2, .int p1)]) hx hb dX0_putHead_6 rfl hl (by decide) rfl (fun ls hl => ?_)
  refine lv_iload_n hx hb dX0_putHead_7 rfl (lv_at hl 0 rfl) ?_
  refine lv_istore (lv' := [(4, .int r_15), (3, .int r_15), (0, .ref h0), (1, .int p0), (2, .int p1)]) hx hb dX0_putHead_8 hl (by decide) rfl (fun ls hl => ?_)
  exact g10  5000 r_15 r_15 C _ _ _ hf hP hD hS (lv_sub hl [2, 3, 4, 1, 0] rfl)
abbrev rmX0_moveOne : Room := ({ frames := 3, cells := 0, slots := 0, locals := 47 })
set_option maxHeartbeats 4000000 in
set_option maxRecDepth 100000 in
theorem kX0_moveOne (l : Launch) (D : va_G) (cI cB cL : ClassId) (h0 : Nat) (h1 : Nat) (sz : Nat) (C : Nat → Int32) (p0 : Int32) (w : Int32) (C' : Nat → Int32) (hf : fX0_moveOne C p0 = some (w, C')) : Met l yX0_moveOne wsX0_moveOne rmX0_moveOne (mPc D (tyK cI cB cL) [.ref h0, .int p0] sz [(h0, .inr (0, [.ref h1])), (h1, .inl (cI, 256, .inl C))]) (mQi D w [(h0, .inr (0, [.ref h1])), (h1, .inl (cI, 256, .inl C'))] (va_A [(h0, .inr (0, [.ref h1])), (h1, .inl (cI, 256, .inl C))] sz)) 0 0 (va_A [(h0, .inr (0, [.ref h1])), (h1, .inl (cI, 256, .inl C))] sz) := by
  refine m_of (Qf := mQi D w [(h0, .inr (0, [.ref h1])), (h1, .inl (cI, 256, .inl C'))]) (cc := cX0_moveOne) (maxL := 4) (ret := (some .boolean)) (by decide) rfl (Nat.le_of_ble_eq_true rfl) ?_
  intro p e s m args below meth c A ls hsz hx hb hr hml hown hts hlocks hP hK hD hS hA hE hin hl Q hQ
  subst hsz
  have hl : lv_has ls 4 [(0, .ref h0), (1, .int p0)] := hl
  have hown : s.vm.findClass RX0 = some m.cls := hown
  have iX0 : ∀ w ∈ u_ws RX0 TX0 1, w ∈ wsX0_moveOne := by decide +kernel
  have hl0 := hl
  have g55 : ∀ (v2 : Int32) (v3 : Int32) (C : Nat → Int32) (H : Heap) (locs : List Loc) (ls : Array Slot), fX0_moveOne_55 p0 v2 v3 C = some (w, C') → va_P D vwCl [(h0, .inr (0, [.ref h1])), (h1, .inl (cI, 256, .inl C))] H → va_D A [(h0, .inr (0, [.ref h1])), (h1, .inl (cI, 256, .inl C))] → va_S A s.heap H locs → lv_has ls 4 [(0, .ref h0), (1, .int p0), (2, .int v2), (3, .int v3)] → W p l e rmX0_moveOne s m args below meth c H locs 0 0 Q (F0 m 55 ls []) := by
    intro  v2 v3 C H locs ls hf hP hD hS hl
    unfold fX0_moveOne_55 at hf
    refine lv_aload_n hx hb dX0_moveOne_55 rfl (lv_at hl 0 rfl) ?_
    refine lv_iload_n hx hb dX0_moveOne_56 rfl (lv_at hl 1 rfl) ?_
    obtain ⟨q, h_1, hf⟩ := bd_some hf
    obtain ⟨C_2, rfl⟩ : ∃ z, z = q := ⟨_, rfl⟩
    try dsimp only at hf
    refine cl_v (ws := [(h0, .inr (0, [.ref h1])), (h1, .inl (cI, 256, .inl C))]) (wc := [(h0, .inr (0, [.ref h1])), (h1, .inl (cI, 256, .inl C))]) (wr := []) (w1 := [(h0, .inr (0, [.ref h1])), (h1, .inl (cI, 256, .inl C_2))]) (ws' := [(h0, .inr (0, [.ref h1])), (h1, .inl (cI, 256, .inl C_2))]) hP hD hS hA [0, 1] [] [0, 1] rfl rfl (by decide) (by decide) rfl (by decide) (va_runV (As := [.int p0]) (rest := []) ⟨hx, hb, hml, hown, hts⟩ (kX0_drawIn l D cI cB cL h0 h1 _ C p0 C_2 h_1) (cwV 1 hts gX0_moveOne_X0_drawIn rfl rfl rfl (by decide +kernel) ⟨Nat.le_of_ble_eq_true rfl, Nat.le_of_ble_eq_true rfl⟩) (pre_V (ci := 0) (q0 := 0) (T := TX0) (N := 1) hK hE hP hD hS hA [0, 1] rfl (by decide) rfl rfl) rfl rfl hl.1 rfl (lv_room (Nat.le_of_ble_eq_true rfl)) dX0_moveOne_57 ⟨Nat.le_of_ble_eq_true rfl, Nat.le_of_ble_eq_true rfl⟩) (fun H locs hP hD hS => ?_)
    refine lv_iload_n hx hb dX0_moveOne_60 rfl (lv_at hl 3 rfl) ?_
    refine lv_if_eq (tgt := 72) hx hb dX0_moveOne_61 (by decide) (fun c_3 => ?_) (fun c_3 => ?_)
    · have hf := br_pos c_3 hf
      refine lv_aload_n hx hb dX0_moveOne_72 rfl (lv_at hl 0 rfl) ?_
      refine lv_iload_n hx hb dX0_moveOne_73 rfl (lv_at hl 1 rfl) ?_
      refine lv_iload_n hx hb dX0_moveOne_74 rfl (lv_at hl 2 rfl) ?_
      obtain ⟨q, h_4, hf⟩ := bd_some hf
      obtain ⟨C_5, rfl⟩ : ∃ z, z = q := ⟨_, rfl⟩
      try dsimp only at hf
      refine cl_v (ws := [(h0, .inr (0, [.ref h1])), (h1, .inl (cI, 256, .inl C_2))]) (wc := [(h0, .inr (0, [.ref h1])), (h1, .inl (cI, 256, .inl C_2))]) (wr := []) (w1 := [(h0, .inr (0, [.ref h1])), (h1, .inl (cI, 256, .inl C_5))]) (ws' := [(h0, .inr (0, [.ref h1])), (h1, .inl (cI, 256, .inl C_5))]) hP hD hS hA [0, 1] [] [0, 1] rfl rfl (by decide) (by decide) rfl (by decide) (va_runV (As := [.int p0, .int v2]) (rest := []) ⟨hx, hb, hml, hown, hts⟩ (kX0_putHead l D cI cB cL h0 h1 _ C_2 p0 v2 C_5 h_4) (cwV 2 hts gX0_moveOne_X0_putHead rfl rfl rfl (by decide +kernel) ⟨Nat.le_of_ble_eq_true rfl, Nat.le_of_ble_eq_true rfl⟩) (pre_V (ci := 0) (q0 := 0) (T := TX0) (N := 1) hK hE hP hD hS hA [0, 1] rfl (by decide) rfl rfl) rfl rfl hl.1 rfl (lv_room (Nat.le_of_ble_eq_true rfl)) dX0_moveOne_75 ⟨Nat.le_of_ble_eq_true rfl, Nat.le_of_ble_eq_true rfl⟩) (fun H locs hP hD hS => ?_)
      refine lv_iconst (v := 1) hx hb dX0_moveOne_78 (by decide) ?_
      cases hf
      exact rt_z hQ hx hb hr rfl hlocks hP hD hS dX0_moveOne_79
    · have hf := br_neg c_3 hf
      refine lv_aload_n hx hb dX0_moveOne_64 rfl (lv_at hl 0 rfl) ?_
      refine lv_iload_n hx hb dX0_moveOne_65 rfl (lv_at hl 1 rfl) ?_
      obtain ⟨q, h_6, hf⟩ := bd_some hf
      obtain ⟨C_7, rfl⟩ : ∃ z, z = q := ⟨_, rfl⟩
      try dsimp only at hf
      refine cl_v (ws := [(h0, .inr (0, [.ref h1])), (h1, .inl (cI, 256, .inl C_2))]) (wc := [(h0, .inr (0, [.ref h1])), (h1, .inl (cI, 256, .inl C_2))]) (wr := []) (w1 := [(h0, .inr (0, [.ref h1])), (h1, .inl (cI, 256, .inl C_7))]) (ws' := [(h0, .inr (0, [.ref h1])), (h1, .inl (cI, 256, .inl C_7))]) hP hD hS hA [0, 1] [] [0, 1] rfl rfl (by decide) (by decide) rfl (by decide) (va_runV (As := [.int p0]) (rest := []) ⟨hx, hb, hml, hown, hts⟩ (kX0_eatOnePart l D cI cB cL h0 h1 _ C_2 p0 C_7 h_6) (cwV 1 hts gX0_moveOne_X0_eatOnePart rfl rfl rfl (by decide +kernel) ⟨Nat.le_of_ble_eq_true rfl, Nat.le_of_ble_eq_true rfl⟩) (pre_V (ci := 0) (q0 := 0) (T := TX0) (N := 1) hK hE hP hD hS hA [0, 1] rfl (by decide) rfl rfl) rfl rfl hl.1 rfl (lv_room (Nat.le_of_ble_eq_true rfl)) dX0_moveOne_66 ⟨Nat.le_of_ble_eq_true rfl, Nat.le_of_ble_eq_true rfl⟩) (fun H locs hP hD hS => ?_)
      refine lv_goto (tgt := 78) hx hb dX0_moveOne_69 (by decide) ?_
      refine lv_iconst (v := 1) hx hb dX0_moveOne_78 (by decide) ?_
      cases hf
      exact rt_z hQ hx hb hr rfl hlocks hP hD hS dX0_moveOne_79
  have g16 : ∀ (v2 : Int32) (z0 : Int32) (C : Nat → Int32) (H : Heap) (locs : List Loc) (ls : Array Slot), fX0_moveOne_16 p0 v2 z0 C = some (w, C') → va_P D vwCl [(h0, .inr (0, [.ref h1])), (h1, .inl (cI, 256, .inl C))] H → va_D A [(h0, .inr (0, [.ref h1])), (h1, .inl (cI, 256, .inl C))] → va_S A s.heap H locs → lv_has ls 4 [(0, .ref h0), (1, .int p0), (2, .int v2)] → W p l e rmX0_moveOne s m args below meth c H locs 0 0 Q (F0 m 16 ls [.int z0]) := by
    intro  v2 z0 C H locs ls hf hP hD hS hl
    unfold fX0_moveOne_16 at hf
    refine lv_istore_n (lv' := [(3, .int z0), (0, .ref h0), (1, .int p0), (2, .int v2)]) hx hb dX0_moveOne_16 rfl hl (by decide) rfl (fun ls hl => ?_)
    refine lv_iload_n hx hb dX0_moveOne_17 rfl (lv_at hl 0 rfl) ?_
    refine lv_if_ne (tgt := 55) hx hb dX0_moveOne_18 (by decide) (fun c_8 => ?_) (fun c_8 => ?_)
    · have hf := br_neg c_8 hf
      exact g55  v2 z0 C _ _ _ hf hP hD hS (lv_sub hl [1, 2, 3, 0] rfl)
    · have hf := br_pos c_8 hf
      refine lv_aload_n hx hb dX0_moveOne_21 rfl (lv_at hl 1 rfl) ?_
      refine lv_iload_n hx hb dX0_moveOne_22 rfl (lv_at hl 3 rfl) ?_
      obtain ⟨q, h_9, hf⟩ := bd_some hf
      obtain ⟨r_10, rfl⟩ : ∃ z, z = q := ⟨_, rfl⟩
      try dsimp only at hf
      refine cl_i (ws := [(h0, .inr (0, [.ref h1])), (h1, .inl (cI, 256, .inl C))]) (wc := [(h0, .inr (0, [.ref h1])), (h1, .inl (cI, 256, .inl C))]) (wr := []) (w1 := [(h0, .inr (0, [.ref h1])), (h1, .inl (cI, 256, .inl C))]) (ws' := [(h0, .inr (0, [.ref h1])), (h1, .inl (cI, 256, .inl C))]) hP hD hS hA [0, 1] [] [0, 1] rfl rfl (by decide) (by decide) rfl (by decide) (va_runV (As := [.int v2]) (rest := []) ⟨hx, hb, hml, hown, hts⟩ (kX0_isFree l D cI cB cL h0 h1 _ C v2 r_10 h_9) (cwV 1 hts gX0_moveOne_X0_isFree rfl rfl rfl (by decide +kernel) ⟨Nat.le_of_ble_eq_true rfl, Nat.le_of_ble_eq_true rfl⟩) (pre_V (ci := 0) (q0 := 0) (T := TX0) (N := 1) hK hE hP hD hS hA [0, 1] rfl (by decide) rfl rfl) rfl rfl hl.1 rfl (lv_room (Nat.le_of_ble_eq_true rfl)) dX0_moveOne_23 ⟨Nat.le_of_ble_eq_true rfl, Nat.le_of_ble_eq_true rfl⟩) (fun H locs hP hD hS => ?_)
      refine lv_if_ne (tgt := 55) hx hb dX0_moveOne_26 (by decide) (fun c_11 => ?_) (fun c_11 => ?_)
      · have hf := br_neg c_11 hf
        exact g55  v2 z0 C _ _ _ hf hP hD hS (lv_sub hl [1, 2, 3, 0] rfl)
      · have hf := br_pos c_11 hf
        refine lv_aload_n hx hb dX0_moveOne_29 rfl (lv_at hl 1 rfl) ?_
        refine lv_iload_n hx hb dX0_moveOne_30 rfl (lv_at hl 2 rfl) ?_
        refine lv_iconst (v := 4) hx hb dX0_moveOne_31 (by decide) ?_
        refine lv_aload_n hx hb dX0_moveOne_32 rfl (lv_at hl 1 rfl) ?_
        refine lv_iload_n hx hb dX0_moveOne_33 rfl (lv_at hl 2 rfl) ?_
        refine lv_iconst (v := 4) hx hb dX0_moveOne_34 (by decide) ?_
        obtain ⟨q, h_12, hf⟩ := bd_some hf
        obtain ⟨r_13, rfl⟩ : ∃ z, z = q := ⟨_, rfl⟩
        try dsimp only at hf
        refine cl_i (ws := [(h0, .inr (0, [.ref h1])), (h1, .inl (cI, 256, .inl C))]) (wc := [(h0, .inr (0, [.ref h1])), (h1, .inl (cI, 256, .inl C))]) (wr := []) (w1 := [(h0, .inr (0, [.ref h1])), (h1, .inl (cI, 256, .inl C))]) (ws' := [(h0, .inr (0, [.ref h1])), (h1, .inl (cI, 256, .inl C))]) hP hD hS hA [0, 1] [] [0, 1] rfl rfl (by decide) (by decide) rfl (by decide) (va_runV (As := [.int p0, .int 4]) (rest := [.int 4, .int p0, .ref h0]) ⟨hx, hb, hml, hown, hts⟩ (kX0_number l D cI cB cL h0 h1 _ C p0 4 r_13 h_12) (cwV 2 hts gX0_moveOne_X0_number rfl rfl rfl (by decide +kernel) ⟨Nat.le_of_ble_eq_true rfl, Nat.le_of_ble_eq_true rfl⟩) (pre_V (ci := 0) (q0 := 0) (T := TX0) (N := 1) hK hE hP hD hS hA [0, 1] rfl (by decide) rfl rfl) rfl rfl hl.1 rfl (lv_room (Nat.le_of_ble_eq_true rfl)) dX0_moveOne_35 ⟨Nat.le_of_ble_eq_true rfl, Nat.le_of_ble_eq_true rfl⟩) (fun H locs hP hD hS => ?_)
        refine lv_iconst (v := 1) hx hb dX0_moveOne_38 (by decide) ?_
        refine lv_iadd hx hb dX0_moveOne_39 ?_
        obtain ⟨q, h_14, hf⟩ := bd_some hf
        obtain ⟨C_15, rfl⟩ : ∃ z, z = q := ⟨_, rfl⟩
        try dsimp only at hf
        refine cl_v (ws := [(h0, .inr (0, [.ref h1])), (h1, .inl (cI, 256, .inl C))]) (wc := [(h0, .inr (0, [.ref h1])), (h1, .inl (cI, 256, .inl C))]) (wr := []) (w1 := [(h0, .inr (0, [.ref h1])), (h1, .inl (cI, 256, .inl C_15))]) (ws' := [(h0, .inr (0, [.ref h1])), (h1, .inl (cI, 256, .inl C_15))]) hP hD hS hA [0, 1] [] [0, 1] rfl rfl (by decide) (by decide) rfl (by decide) (va_runV (As := [.int p0, .int 4, .int (r_13 + 1)]) (rest := []) ⟨hx, hb, hml, hown, hts⟩ (kX0_setNumber l D cI cB cL h0 h1 _ C p0 4 (r_13 + 1) C_15 h_14) (cwV 3 hts gX0_moveOne_X0_setNumber rfl rfl rfl (by decide +kernel) ⟨Nat.le_of_ble_eq_true rfl, Nat.le_of_ble_eq_true rfl⟩) (pre_V (ci := 0) (q0 := 0) (T := TX0) (N := 1) hK hE hP hD hS hA [0, 1] rfl (by decide) rfl rfl) rfl rfl hl.1 rfl (lv_room (Nat.le_of_ble_eq_true rfl)) dX0_moveOne_40 ⟨Nat.le_of_ble_eq_true rfl, Nat.le_of_ble_eq_true rfl⟩) (fun H locs hP hD hS => ?_)
        refine lv_aload_n hx hb dX0_moveOne_43 rfl (lv_at hl 1 rfl) ?_
        refine va_get (D := D) (ci := 0) (v := .ref h1) (C := RX0) (T := TX0) (N := 1) hx hb hts iX0 hown hK hP 0 rfl rfl 0 (by decide) (hts (.fieldLink RX0 9 "LongCaterpillars$House" "cells" "[I") (List.mem_of_getElem? (i := 1) rfl)) (fun _ h9 => h9) rfl dX0_moveOne_44 ?_
        refine lv_iconst (v := 3) hx hb dX0_moveOne_47 (by decide) ?_
        refine lv_dup2_11 hx hb dX0_moveOne_48 rfl rfl ?_
        refine x_iald hx hb hK hP 1 0 rfl rfl (vl rfl) 3 rfl dX0_moveOne_49 ?_
        refine lv_iconst (v := 1) hx hb dX0_moveOne_50 (by decide) ?_
        refine lv_iadd hx hb dX0_moveOne_51 ?_
        refine x_iast hx hb hK hP hD hS 1 0 rfl rfl (vl rfl) 3 rfl [(h0, .inr (0, [.ref h1])), (h1, .inl (cI, 256, .inl (upd C_15 3 ((C_15 3) + 1))))] rfl dX0_moveOne_52 (fun H locs hP hD hS => ?_)
        refine lv_iconst (v := 0) hx hb dX0_moveOne_53 (by decide) ?_
        cases hf
        exact rt_z hQ hx hb hr rfl hlocks hP hD hS dX0_moveOne_54
  unfold fX0_moveOne at hf
  refine lv_aload_n hx hb dX0_moveOne_0 rfl (lv_at hl 0 rfl) ?_
  refine lv_iload_n hx hb dX0_moveOne_1 rfl (lv_at hl 1 rfl) ?_
  obtain ⟨q, h_16, hf⟩ := bd_some hf
  obtain ⟨r_17, rfl⟩ : ∃ z, z = q := ⟨_, rfl⟩
  try dsimp only at hf
  refine cl_i (ws := [(h0, .inr (0, [.ref h1])), (h1, .inl (cI, 256, .inl C))]) (wc := [(h0, .inr (0, [.ref h1])), (h1, .inl (cI, 256, .inl C))]) (wr := []) (w1 := [(h0, .inr (0, [.ref h1])), (h1, .inl (cI, 256, .inl C))]) (ws' := [(h0, .inr (0, [.ref h1])), (h1, .inl (cI, 256, .inl C))]) hP hD hS hA [0, 1] [] [0, 1] rfl rfl (by decide) (by decide) rfl (by decide) (va_runV (As := [.int p0]) (rest := []) ⟨hx, hb, hml, hown, hts⟩ (kX0_nextRoomOf l D cI cB cL h0 h1 _ C p0 r_17 h_16) (cwV 1 hts gX0_moveOne_X0_nextRoomOf rfl rfl rfl (by decide +kernel) ⟨Nat.le_of_ble_eq_true rfl, Nat.le_of_ble_eq_true rfl⟩) (pre_V (ci := 0) (q0 := 0) (T := TX0) (N := 1) hK hE hP hD hS hA [0, 1] rfl (by decide) rfl rfl) rfl rfl hl.1 rfl (lv_room (Nat.le_of_ble_eq_true rfl)) dX0_moveOne_2 ⟨Nat.le_of_ble_eq_true rfl, Nat.le_of_ble_eq_true rfl⟩) (fun H locs hP hD hS => ?_)
  refine lv_istore_n (lv' := [(2, .int r_17), (0, .ref h0), (1, .int p0)]) hx hb dX0_moveOne_5 rfl hl (by decide) rfl (fun ls hl => ?_)
  refine lv_iload_n hx hb dX0_moveOne_6 rfl (lv_at hl 0 rfl) ?_
  refine lv_iconst (v := (-1)) hx hb dX0_moveOne_7 (by decide) ?_
  refine lv_icmp_ne (tgt := 15) hx hb dX0_moveOne_8 (by decide) (fun c_18 => ?_) (fun c_18 => ?_)
  · have hf := br_neg c_18 hf
    refine lv_iconst (v := 0) hx hb dX0_moveOne_15 (by decide) ?_
    exact g16  r_17 0 C _ _ _ hf hP hD hS (lv_sub hl [1, 2, 0] rfl)
  · have hf := br_pos c_18 hf
    refine lv_iconst (v := 1) hx hb dX0_moveOne_11 (by decide) ?_
    refine lv_goto (tgt := 16) hx hb dX0_moveOne_12 (by decide) ?_
    exact g16  r_17 1 C _ _ _ hf hP hD hS (lv_sub hl [1, 2, 0] rfl)
abbrev rmX0_moveAll : Room := ({ frames := 4, cells := 0, slots := 0, locals := 70 })
set_option maxHeartbeats 4000000 in
set_option maxRecDepth 100000 in
theorem kX0_moveAll (l : Launch) (D : va_G) (cI cB cL : ClassId) (h0 : Nat) (h1 : Nat) (sz : Nat) (C : Nat → Int32) (w : Int32) (C' : Nat → Int32) (hf : fX0_moveAll C = some (w, C')) : Met l yX0_moveAll wsX0_moveAll rmX0_moveAll (mPc D (tyK cI cB cL) [.ref h0] sz [(h0, .inr (0, [.ref h1])), (h1, .inl (cI, 256, .inl C))]) (mQi D w [(h0, .inr (0, [.ref h1])), (h1, .inl (cI, 256, .inl C'))] (va_A [(h0, .inr (0, [.ref h1])), (h1, .inl (cI, 256, .inl C))] sz)) 0 0 (va_A [(h0, .inr (0, [.ref h1])), (h1, .inl (cI, 256, .inl C))] sz) := by
  refine m_of (Qf := mQi D w [(h0, .inr (0, [.ref h1])), (h1, .inl (cI, 256, .inl C'))]) (cc := cX0_moveAll) (maxL := 3) (ret := (some .boolean)) (by decide) rfl (Nat.le_of_ble_eq_true rfl) ?_
  intro p e s m args below meth c A ls hsz hx hb hr hml hown hts hlocks hP hK hD hS hA hE hin hl Q hQ
  subst hsz
  have hl : lv_has ls 3 [(0, .ref h0)] := hl
  have hown : s.vm.findClass RX0 = some m.cls := hown
  have iX0 : ∀ w ∈ u_ws RX0 TX0 1, w ∈ wsX0_moveAll := by decide +kernel
  have hl0 := hl
  have g38 : ∀ (k14 : Int32 → Int32 → (Nat → Int32) → Option (Int32 × (Nat → Int32))) (hk14 : ∀ (v1 : Int32) (v2 : Int32) (C : Nat → Int32) (H : Heap) (locs : List Loc) (ls : Array Slot), k14 v1 v2 C = some (w, C') → va_P D vwCl [(h0, .inr (0, [.ref h1])), (h1, .inl (cI, 256, .inl C))] H → va_D A [(h0, .inr (0, [.ref h1])), (h1, .inl (cI, 256, .inl C))] → va_S A s.heap H locs → lv_has ls 3 [(0, .ref h0), (1, .int v1), (2, .int v2)] → W p l e rmX0_moveAll s m args below meth c H locs 0 0 Q (F0 m 14 ls [])) (v1 : Int32) (v2 : Int32) (C : Nat → Int32) (H : Heap) (locs : List Loc) (ls : Array Slot), fX0_moveAll_38 k14 v1 v2 C = some (w, C') → va_P D vwCl [(h0, .inr (0, [.ref h1])), (h1, .inl (cI, 256, .inl C))] H → va_D A [(h0, .inr (0, [.ref h1])), (h1, .inl (cI, 256, .inl C))] → va_S A s.heap H locs → lv_has ls 3 [(0, .ref h0), (1, .int v1), (2, .int v2)] → W p l e rmX0_moveAll s m args below meth c H locs 0 0 Q (F0 m 38 ls []) := by
    intro k14 hk14 v1 v2 C H locs ls hf hP hD hS hl
    unfold fX0_moveAll_38 at hf
    refine lv_iinc (v := (v2 + 1)) (lv' := [(2, .int (v2 + 1)), (0, .ref h0), (1, .int v1)]) hx hb dX0_moveAll_38 hl (k := 2) rfl rfl (by decide) rfl (fun ls hl => ?_)
    refine lv_goto (tgt := 14) hx hb dX0_moveAll_41 (by decide) ?_
    exact hk14 v1 (v2 + 1) C _ _ _ hf hP hD hS (lv_sub hl [1, 2, 0] rfl)
  have g14 : ∀ (n : Nat) (v1 : Int32) (v2 : Int32) (C : Nat → Int32) (H : Heap) (locs : List Loc) (ls : Array Slot), fX0_moveAll_14 n v1 v2 C = some (w, C') → va_P D vwCl [(h0, .inr (0, [.ref h1])), (h1, .inl (cI, 256, .inl C))] H → va_D A [(h0, .inr (0, [.ref h1])), (h1, .inl (cI, 256, .inl C))] → va_S A s.heap H locs → lv_has ls 3 [(0, .ref h0), (1, .int v1), (2, .int v2)] → W p l e rmX0_moveAll s m args below meth c H locs 0 0 Q (F0 m 14 ls []) := by
    intro  n
    induction n with
    | zero =>
      intro v1 v2 C H locs ls hf
      exact absurd hf (by rw [fX0_moveAll_14]; simp)
    | succ n ih =>
      intro v1 v2 C H locs ls hf hP hD hS hl
      rw [fX0_moveAll_14] at hf
      refine lv_iload_n hx hb dX0_moveAll_14 rfl (lv_at hl 2 rfl) ?_
      refine lv_bipush (v := 10) hx hb dX0_moveAll_15 (by decide) ?_
      refine lv_icmp_ge (tgt := 44) hx hb dX0_moveAll_17 (by decide) (fun c_1 => ?_) (fun c_1 => ?_)
      · have hf := br_pos c_1 hf
        refine lv_iload_n hx hb dX0_moveAll_44 rfl (lv_at hl 1 rfl) ?_
        obtain ⟨z_2, hf⟩ := gz_some hf
        cases hf
        exact rt_z hQ hx hb hr (isz_n z_2) hlocks hP hD hS dX0_moveAll_45
      · have hf := br_neg c_1 hf
        refine lv_aload_n hx hb dX0_moveAll_20 rfl (lv_at hl 0 rfl) ?_
        refine lv_iload_n hx hb dX0_moveAll_21 rfl (lv_at hl 2 rfl) ?_
        obtain ⟨q, h_3, hf⟩ := bd_some hf
        obtain ⟨r_4, rfl⟩ : ∃ z, z = q := ⟨_, rfl⟩
        try dsimp only at hf
        refine cl_i (ws := [(h0, .inr (0, [.ref h1])), (h1, .inl (cI, 256, .inl C))]) (wc := [(h0, .inr (0, [.ref h1])), (h1, .inl (cI, 256, .inl C))]) (wr := []) (w1 := [(h0, .inr (0, [.ref h1])), (h1, .inl (cI, 256, .inl C))]) (ws' := [(h0, .inr (0, [.ref h1])), (h1, .inl (cI, 256, .inl C))]) hP hD hS hA [0, 1] [] [0, 1] rfl rfl (by decide) (by decide) rfl (by decide) (va_runV (As := [.int v2]) (rest := []) ⟨hx, hb, hml, hown, hts⟩ (kX0_isUnderWay l D cI cB cL h0 h1 _ C v2 r_4 h_3) (cwV 1 hts gX0_moveAll_X0_isUnderWay rfl rfl rfl (by decide +kernel) ⟨Nat.le_of_ble_eq_true rfl, Nat.le_of_ble_eq_true rfl⟩) (pre_V (ci := 0) (q0 := 0) (T := TX0) (N := 1) hK hE hP hD hS hA [0, 1] rfl (by decide) rfl rfl) rfl rfl hl.1 rfl (lv_room (Nat.le_of_ble_eq_true rfl)) dX0_moveAll_22 ⟨Nat.le_of_ble_eq_true rfl, Nat.le_of_ble_eq_true rfl⟩) (fun H locs hP hD hS => ?_)
        refine lv_if_eq (tgt := 38) hx hb dX0_moveAll_25 (by decide) (fun c_5 => ?_) (fun c_5 => ?_)
        · have hf := br_pos c_5 hf
          exact g38  (fX0_moveAll_14 n) ih v1 v2 C _ _ _ hf hP hD hS (lv_sub hl [0, 1, 2] rfl)
        · have hf := br_neg c_5 hf
          refine lv_aload_n hx hb dX0_moveAll_28 rfl (lv_at hl 0 rfl) ?_
          refine lv_iload_n hx hb dX0_moveAll_29 rfl (lv_at hl 2 rfl) ?_
          obtain ⟨q, h_6, hf⟩ := bd_some hf
          obtain ⟨r_7, C_8⟩ := q
          try dsimp only at hf
          refine cl_i (ws := [(h0, .inr (0, [.ref h1])), (h1, .inl (cI, 256, .inl C))]) (wc := [(h0, .inr (0, [.ref h1])), (h1, .inl (cI, 256, .inl C))]) (wr := []) (w1 := [(h0, .inr (0, [.ref h1])), (h1, .inl (cI, 256, .inl C_8))]) (ws' := [(h0, .inr (0, [.ref h1])), (h1, .inl (cI, 256, .inl C_8))]) hP hD hS hA [0, 1] [] [0, 1] rfl rfl (by decide) (by decide) rfl (by decide) (va_runV (As := [.int v2]) (rest := []) ⟨hx, hb, hml, hown, hts⟩ (kX0_moveOne l D cI cB cL h0 h1 _ C v2 r_7 C_8 h_6) (cwV 1 hts gX0_moveAll_X0_moveOne rfl rfl rfl (by decide +kernel) ⟨Nat.le_of_ble_eq_true rfl, Nat.le_of_ble_eq_true rfl⟩) (pre_V (ci := 0) (q0 := 0) (T := TX0) (N := 1) hK hE hP hD hS hA [0, 1] rfl (by decide) rfl rfl) rfl rfl hl.1 rfl (lv_room (Nat.le_of_ble_eq_true rfl)) dX0_moveAll_30 ⟨Nat.le_of_ble_eq_true rfl, Nat.le_of_ble_eq_true rfl⟩) (fun H locs hP hD hS => ?_)
          refine lv_if_eq (tgt := 38) hx hb dX0_moveAll_33 (by decide) (fun c_9 => ?_) (fun c_9 => ?_)
          · have hf := br_pos c_9 hf
            exact g38  (fX0_moveAll_14 n) ih v1 v2 C_8 _ _ _ hf hP hD hS (lv_sub hl [0, 1, 2] rfl)
          · have hf := br_neg c_9 hf
            refine lv_iconst (v := 1) hx hb dX0_moveAll_36 (by decide) ?_
            refine lv_istore_n (lv' := [(1, .int 1), (0, .ref h0), (2, .int v2)]) hx hb dX0_moveAll_37 rfl hl (by decide) rfl (fun ls hl => ?_)
            exact g38  (fX0_moveAll_14 n) ih 1 v2 C_8 _ _ _ hf hP hD hS (lv_sub hl [1, 0, 2] rfl)
  unfold fX0_moveAll at hf
  refine lv_aload_n hx hb dX0_moveAll_0 rfl (lv_at hl 0 rfl) ?_
  refine va_get (D := D) (ci := 0) (v := .ref h1) (C := RX0) (T := TX0) (N := 1) hx hb hts iX0 hown hK hP 0 rfl rfl 0 (by decide) (hts (.fieldLink RX0 9 "LongCaterpillars$House" "cells" "[I") (List.mem_of_getElem? (i := 1) rfl)) (fun _ h9 => h9) rfl dX0_moveAll_1 ?_
  refine lv_iconst (v := 2) hx hb dX0_moveAll_4 (by decide) ?_
  refine lv_dup2_11 hx hb dX0_moveAll_5 rfl rfl ?_
  refine x_iald hx hb hK hP 1 0 rfl rfl (vl rfl) 2 rfl dX0_moveAll_6 ?_
  refine lv_iconst (v := 1) hx hb dX0_moveAll_7 (by decide) ?_
  refine lv_iadd hx hb dX0_moveAll_8 ?_
  refine x_iast hx hb hK hP hD hS 1 0 rfl rfl (vl rfl) 2 rfl [(h0, .inr (0, [.ref h1])), (h1, .inl (cI, 256, .inl (upd C 2 ((C 2) + 1))))] rfl dX0_moveAll_9 (fun H locs hP hD hS => ?_)
  refine lv_iconst (v := 0) hx hb dX0_moveAll_10 (by decide) ?_
  refine lv_istore_n (lv' := [(1, .int 0), (0, .ref h0)]) hx hb dX0_moveAll_11 rfl hl (by decide) rfl (fun ls hl => ?_)
  refine lv_iconst (v := 0) hx hb dX0_moveAll_12 (by decide) ?_
  refine lv_istore_n (lv' := [(2, .int 0), (1, .int 0), (0, .ref h0)]) hx hb dX0_moveAll_13 rfl hl (by decide) rfl (fun ls hl => ?_)
  exact g14  5000 0 0 (upd C 2 ((C 2) + 1)) _ _ _ hf hP hD hS (lv_sub hl [2, 1, 0] rfl)
abbrev rmX0_runTicks : Room := ({ frames := 5, cells := 0, slots := 0, locals := 92 })
set_option maxHeartbeats 4000000 in
set_option maxRecDepth 100000 in
theorem kX0_runTicks (l : Launch) (D : va_G) (cI cB cL : ClassId) (h0 : Nat) (h1 : Nat) (sz : Nat) (C : Nat → Int32) (p0 : Int32) (w : Int32) (C' : Nat → Int32) (hf : fX0_runTicks C p0 = some (w, C')) : Met l yX0_runTicks wsX0_runTicks rmX0_runTicks (mPc D (tyK cI cB cL) [.ref h0, .int p0] sz [(h0, .inr (0, [.ref h1])), (h1, .inl (cI, 256, .inl C))]) (mQi D w [(h0, .inr (0, [.ref h1])), (h1, .inl (cI, 256, .inl C'))] (va_A [(h0, .inr (0, [.ref h1])), (h1, .inl (cI, 256, .inl C))] sz)) 0 0 (va_A [(h0, .inr (0, [.ref h1])), (h1, .inl (cI, 256, .inl C))] sz) := by
  refine m_of (Qf := mQi D w [(h0, .inr (0, [.ref h1])), (h1, .inl (cI, 256, .inl C'))]) (cc := cX0_runTicks) (maxL := 3) (ret := (some .boolean)) (by decide) rfl (Nat.le_of_ble_eq_true rfl) ?_
  intro p e s m args below meth c A ls hsz hx hb hr hml hown hts hlocks hP hK hD hS hA hE hin hl Q hQ
  subst hsz
  have hl : lv_has ls 3 [(0, .ref h0), (1, .int p0)] := hl
  have hown : s.vm.findClass RX0 = some m.cls := hown
  have hl0 := hl
  have g11 : ∀ (n : Nat) (v2 : Int32) (C : Nat → Int32) (H : Heap) (locs : List Loc) (ls : Array Slot), fX0_runTicks_11 p0 n v2 C = some (w, C') → va_P D vwCl [(h0, .inr (0, [.ref h1])), (h1, .inl (cI, 256, .inl C))] H → va_D A [(h0, .inr (0, [.ref h1])), (h1, .inl (cI, 256, .inl C))] → va_S A s.heap H locs → lv_has ls 3 [(0, .ref h0), (1, .int p0), (2, .int v2)] → W p l e rmX0_runTicks s m args below meth c H locs 0 0 Q (F0 m 11 ls []) := by
    intro  n
    induction n with
    | zero =>
      intro v2 C H locs ls hf
      exact absurd hf (by rw [fX0_runTicks_11]; simp)
    | succ n ih =>
      intro v2 C H locs ls hf hP hD hS hl
      rw [fX0_runTicks_11] at hf
      refine lv_iload_n hx hb dX0_runTicks_11 rfl (lv_at hl 2 rfl) ?_
      refine lv_iload_n hx hb dX0_runTicks_12 rfl (lv_at hl 1 rfl) ?_
      refine lv_icmp_ge (tgt := 27) hx hb dX0_runTicks_13 (by decide) (fun c_1 => ?_) (fun c_1 => ?_)
      · have hf := br_pos c_1 hf
        refine lv_iconst (v := 1) hx hb dX0_runTicks_27 (by decide) ?_
        cases hf
        exact rt_z hQ hx hb hr rfl hlocks hP hD hS dX0_runTicks_28
      · have hf := br_neg c_1 hf
        refine lv_aload_n hx hb dX0_runTicks_16 rfl (lv_at hl 0 rfl) ?_
        obtain ⟨q, h_2, hf⟩ := bd_some hf
        obtain ⟨r_3, C_4⟩ := q
        try dsimp only at hf
        refine cl_i (ws := [(h0, .inr (0, [.ref h1])), (h1, .inl (cI, 256, .inl C))]) (wc := [(h0, .inr (0, [.ref h1])), (h1, .inl (cI, 256, .inl C))]) (wr := []) (w1 := [(h0, .inr (0, [.ref h1])), (h1, .inl (cI, 256, .inl C_4))]) (ws' := [(h0, .inr (0, [.ref h1])), (h1, .inl (cI, 256, .inl C_4))]) hP hD hS hA [0, 1] [] [0, 1] rfl rfl (by decide) (by decide) rfl (by decide) (va_runV (As := []) (rest := []) ⟨hx, hb, hml, hown, hts⟩ (kX0_moveAll l D cI cB cL h0 h1 _ C r_3 C_4 h_2) (cwV 0 hts gX0_runTicks_X0_moveAll rfl rfl rfl (by decide +kernel) ⟨Nat.le_of_ble_eq_true rfl, Nat.le_of_ble_eq_true rfl⟩) (pre_V (ci := 0) (q0 := 0) (T := TX0) (N := 1) hK hE hP hD hS hA [0, 1] rfl (by decide) rfl rfl) rfl rfl hl.1 rfl (lv_room (Nat.le_of_ble_eq_true rfl)) dX0_runTicks_17 ⟨Nat.le_of_ble_eq_true rfl, Nat.le_of_ble_eq_true rfl⟩) (fun H locs hP hD hS => ?_)
        refine lv_pop hx hb dX0_runTicks_20 rfl ?_
        refine lv_iinc (v := (v2 + 1)) (lv' := [(2, .int (v2 + 1)), (0, .ref h0), (1, .int p0)]) hx hb dX0_runTicks_21 hl (k := 2) rfl rfl (by decide) rfl (fun ls hl => ?_)
        refine lv_goto (tgt := 11) hx hb dX0_runTicks_24 (by decide) ?_
        exact ih (v2 + 1) C_4 _ _ _ hf hP hD hS (lv_sub hl [1, 2, 0] rfl)
  unfold fX0_runTicks at hf
  refine lv_iload_n hx hb dX0_runTicks_0 rfl (lv_at hl 1 rfl) ?_
  obtain ⟨q, h_5, hf⟩ := bd_some hf
  obtain ⟨r_6, rfl⟩ : ∃ z, z = q := ⟨_, rfl⟩
  try dsimp only at hf
  refine cl_i (ws := [(h0, .inr (0, [.ref h1])), (h1, .inl (cI, 256, .inl C))]) (wc := []) (wr := [(h0, .inr (0, [.ref h1])), (h1, .inl (cI, 256, .inl C))]) (w1 := []) (ws' := [(h0, .inr (0, [.ref h1])), (h1, .inl (cI, 256, .inl C))]) hP hD hS hA [] [0, 1] [0, 1] rfl rfl (by decide) (by decide) rfl (by decide) (va_runSN (As := [.int p0]) (rest := []) ⟨hx, hb, hml, hown, hts⟩ (kX3_isTicks l D cI cB cL _ p0 r_6 h_5) ⟨va_cnB 1 hts gX0_runTicks_X3_isTicks_n76 rfl rfl rfl hE.1.2.2.2.2.2.1 (hts (.initialized RX3) (List.mem_of_getElem? (i := 2) rfl)) (by decide +kernel) ⟨Nat.le_of_ble_eq_true rfl, Nat.le_of_ble_eq_true rfl⟩, hts (.static yX3_isTicks) (List.mem_of_getElem? (i := 1) rfl), trivial⟩ (pre_S hK hE hP hD hS hA [] rfl (by decide)) rfl rfl hl.1 rfl (lv_room (Nat.le_of_ble_eq_true rfl)) dX0_runTicks_1 ⟨Nat.le_of_ble_eq_true rfl, Nat.le_of_ble_eq_true rfl⟩) (fun H locs hP hD hS => ?_)
  refine lv_if_ne (tgt := 9) hx hb dX0_runTicks_4 (by decide) (fun c_7 => ?_) (fun c_7 => ?_)
  · have hf := br_neg c_7 hf
    refine lv_iconst (v := 0) hx hb dX0_runTicks_9 (by decide) ?_
    refine lv_istore_n (lv' := [(2, .int 0), (0, .ref h0), (1, .int p0)]) hx hb dX0_runTicks_10 rfl hl (by decide) rfl (fun ls hl => ?_)
    exact g11  5000 0 C _ _ _ hf hP hD hS (lv_sub hl [1, 2, 0] rfl)
  · have hf := br_pos c_7 hf
    refine lv_iconst (v := 0) hx hb dX0_runTicks_7 (by decide) ?_
    cases hf
    exact rt_z hQ hx hb hr rfl hlocks hP hD hS dX0_runTicks_8
abbrev rmX3_isRule : Room := ({ frames := 1, cells := 0, slots := 0, locals := 0 })
set_option maxHeartbeats 4000000 in
set_option maxRecDepth 100000 in
theorem kX3_isRule (l : Launch) (D : va_G) (cI cB cL : ClassId) (sz : Nat) (p0 : Int32) (w : Int32) (hf : fX3_isRule p0 = some w) : Met l yX3_isRule wsX3_isRule rmX3_isRule (mPc D (tyK cI cB cL) [.int p0] sz []) (mQi D w [] (va_A [] sz)) 0 0 (va_A [] sz) := by
  refine m_of (Qf := mQi D w []) (cc := cX3_isRule) (maxL := 1) (ret := (some .boolean)) (by decide) rfl (Nat.le_of_ble_eq_true rfl) ?_
  intro p e s m args below meth c A ls hsz hx hb hr hml hown hts hlocks hP hK hD hS hA hE hin hl Q hQ
  subst hsz
  have hl : lv_has ls 1 [(0, .int p0)] := hl
  have hown : s.vm.findClass RX3 = some m.cls := hown
  unfold fX3_isRule at hf
  refine lv_iload_n hx hb dX3_isRule_0 rfl (lv_at hl 0 rfl) ?_
  refine lv_if_lt (tgt := 13) hx hb dX3_isRule_1 (by decide) (fun c_1 => ?_) (fun c_1 => ?_)
  · have hf := br_pos c_1 hf
    refine lv_iconst (v := 0) hx hb dX3_isRule_13 (by decide) ?_
    cases hf
    exact rt_z hQ hx hb hr rfl hlocks hP hD hS dX3_isRule_14
  · have hf := br_neg c_1 hf
    refine lv_iload_n hx hb dX3_isRule_4 rfl (lv_at hl 0 rfl) ?_
    refine lv_iconst (v := 3) hx hb dX3_isRule_5 (by decide) ?_
    refine lv_icmp_ge (tgt := 13) hx hb dX3_isRule_6 (by decide) (fun c_2 => ?_) (fun c_2 => ?_)
    · have hf := br_pos c_2 hf
      refine lv_iconst (v := 0) hx hb dX3_isRule_13 (by decide) ?_
      cases hf
      exact rt_z hQ hx hb hr rfl hlocks hP hD hS dX3_isRule_14
    · have hf := br_neg c_2 hf
      refine lv_iconst (v := 1) hx hb dX3_isRule_9 (by decide) ?_
      refine lv_goto (tgt := 14) hx hb dX3_isRule_10 (by decide) ?_
      cases hf
      exact rt_z hQ hx hb hr rfl hlocks hP hD hS dX3_isRule_14
abbrev rmX0_setRule : Room := ({ frames := 2, cells := 0, slots := 0, locals := 20 })
set_option maxHeartbeats 4000000 in
set_option maxRecDepth 100000 in
theorem kX0_setRule (l : Launch) (D : va_G) (cI cB cL : ClassId) (h0 : Nat) (h1 : Nat) (sz : Nat) (C : Nat → Int32) (p0 : Int32) (w : Int32) (C' : Nat → Int32) (hf : fX0_setRule C p0 = some (w, C')) : Met l yX0_setRule wsX0_setRule rmX0_setRule (mPc D (tyK cI cB cL) [.ref h0, .int p0] sz [(h0, .inr (0, [.ref h1])), (h1, .inl (cI, 256, .inl C))]) (mQi D w [(h0, .inr (0, [.ref h1])), (h1, .inl (cI, 256, .inl C'))] (va_A [(h0, .inr (0, [.ref h1])), (h1, .inl (cI, 256, .inl C))] sz)) 0 0 (va_A [(h0, .inr (0, [.ref h1])), (h1, .inl (cI, 256, .inl C))] sz) := by
  refine m_of (Qf := mQi D w [(h0, .inr (0, [.ref h1])), (h1, .inl (cI, 256, .inl C'))]) (cc := cX0_setRule) (maxL := 2) (ret := (some .boolean)) (by decide) rfl (Nat.le_of_ble_eq_true rfl) ?_
  intro p e s m args below meth c A ls hsz hx hb hr hml hown hts hlocks hP hK hD hS hA hE hin hl Q hQ
  subst hsz
  have hl : lv_has ls 2 [(0, .ref h0), (1, .int p0)] := hl
  have hown : s.vm.findClass RX0 = some m.cls := hown
  have iX0 : ∀ w ∈ u_ws RX0 TX0 1, w ∈ wsX0_setRule := by decide +kernel
  unfold fX0_setRule at hf
  refine lv_iload_n hx hb dX0_setRule_0 rfl (lv_at hl 1 rfl) ?_
  obtain ⟨q, h_1, hf⟩ := bd_some hf
  obtain ⟨r_2, rfl⟩ : ∃ z, z = q := ⟨_, rfl⟩
  try dsimp only at hf
  refine cl_i (ws := [(h0, .inr (0, [.ref h1])), (h1, .inl (cI, 256, .inl C))]) (wc := []) (wr := [(h0, .inr (0, [.ref h1])), (h1, .inl (cI, 256, .inl C))]) (w1 := []) (ws' := [(h0, .inr (0, [.ref h1])), (h1, .inl (cI, 256, .inl C))]) hP hD hS hA [] [0, 1] [0, 1] rfl rfl (by decide) (by decide) rfl (by decide) (va_runSN (As := [.int p0]) (rest := []) ⟨hx, hb, hml, hown, hts⟩ (kX3_isRule l D cI cB cL _ p0 r_2 h_1) ⟨va_cnB 1 hts gX0_setRule_X3_isRule_n66 rfl rfl rfl hE.1.2.2.1 (hts (.initialized RX3) (List.mem_of_getElem? (i := 3) rfl)) (by decide +kernel) ⟨Nat.le_of_ble_eq_true rfl, Nat.le_of_ble_eq_true rfl⟩, hts (.static yX3_isRule) (List.mem_of_getElem? (i := 2) rfl), trivial⟩ (pre_S hK hE hP hD hS hA [] rfl (by decide)) rfl rfl hl.1 rfl (lv_room (Nat.le_of_ble_eq_true rfl)) dX0_setRule_1 ⟨Nat.le_of_ble_eq_true rfl, Nat.le_of_ble_eq_true rfl⟩) (fun H locs hP hD hS => ?_)
  refine lv_if_ne (tgt := 9) hx hb dX0_setRule_4 (by decide) (fun c_3 => ?_) (fun c_3 => ?_)
  · have hf := br_neg c_3 hf
    refine lv_aload_n hx hb dX0_setRule_9 rfl (lv_at hl 0 rfl) ?_
    refine va_get (D := D) (ci := 0) (v := .ref h1) (C := RX0) (T := TX0) (N := 1) hx hb hts iX0 hown hK hP 0 rfl rfl 0 (by decide) (hts (.fieldLink RX0 9 "LongCaterpillars$House" "cells" "[I") (List.mem_of_getElem? (i := 1) rfl)) (fun _ h9 => h9) rfl dX0_setRule_10 ?_
    refine lv_iconst (v := 1) hx hb dX0_setRule_13 (by decide) ?_
    refine lv_iload_n hx hb dX0_setRule_14 rfl (lv_at hl 1 rfl) ?_
    refine x_iast hx hb hK hP hD hS 1 0 rfl rfl (vl rfl) 1 rfl [(h0, .inr (0, [.ref h1])), (h1, .inl (cI, 256, .inl (upd C 1 p0)))] rfl dX0_setRule_15 (fun H locs hP hD hS => ?_)
    refine lv_iconst (v := 1) hx hb dX0_setRule_16 (by decide) ?_
    cases hf
    exact rt_z hQ hx hb hr rfl hlocks hP hD hS dX0_setRule_17
  · have hf := br_pos c_3 hf
    refine lv_iconst (v := 0) hx hb dX0_setRule_7 (by decide) ?_
    cases hf
    exact rt_z hQ hx hb hr rfl hlocks hP hD hS dX0_setRule_8
abbrev rmX0_setShut : Room := ({ frames := 4, cells := 0, slots := 0, locals := 62 })
set_option maxHeartbeats 4000000 in
set_option maxRecDepth 100000 in
theorem kX0_setShut (l : Launch) (D : va_G) (cI cB cL : ClassId) (h0 : Nat) (h1 : Nat) (sz : Nat) (C : Nat → Int32) (p0 : Int32) (p1 : Int32) (w : Int32) (C' : Nat → Int32) (hf : fX0_setShut C p0 p1 = some (w, C')) : Met l yX0_setShut wsX0_setShut rmX0_setShut (mPc D (tyK cI cB cL) [.ref h0, .int p0, .int p1] sz [(h0, .inr (0, [.ref h1])), (h1, .inl (cI, 256, .inl C))]) (mQi D w [(h0, .inr (0, [.ref h1])), (h1, .inl (cI, 256, .inl C'))] (va_A [(h0, .inr (0, [.ref h1])), (h1, .inl (cI, 256, .inl C))] sz)) 0 0 (va_A [(h0, .inr (0, [.ref h1])), (h1, .inl (cI, 256, .inl C))] sz) := by
  refine m_of (Qf := mQi D w [(h0, .inr (0, [.ref h1])), (h1, .inl (cI, 256, .inl C'))]) (cc := cX0_setShut) (maxL := 3) (ret := (some .boolean)) (by decide) rfl (Nat.le_of_ble_eq_true rfl) ?_
  intro p e s m args below meth c A ls hsz hx hb hr hml hown hts hlocks hP hK hD hS hA hE hin hl Q hQ
  subst hsz
  have hl : lv_has ls 3 [(0, .ref h0), (1, .int p0), (2, .int p1)] := hl
  have hown : s.vm.findClass RX0 = some m.cls := hown
  have iX0 : ∀ w ∈ u_ws RX0 TX0 1, w ∈ wsX0_setShut := by decide +kernel
  have hl0 := hl
  have g37 : ∀ (z0 : Int32) (z1 : Int32) (C : Nat → Int32) (H : Heap) (locs : List Loc) (ls : Array Slot), fX0_setShut_37 z0 z1 C = some (w, C') → va_P D vwCl [(h0, .inr (0, [.ref h1])), (h1, .inl (cI, 256, .inl C))] H → va_D A [(h0, .inr (0, [.ref h1])), (h1, .inl (cI, 256, .inl C))] → va_S A s.heap H locs → lv_has ls 3 [] → W p l e rmX0_setShut s m args below meth c H locs 0 0 Q (F0 m 37 ls [.int z0, .int z1, .ref h1]) := by
    intro  z0 z1 C H locs ls hf hP hD hS hl
    unfold fX0_setShut_37 at hf
    obtain ⟨i_1, hf⟩ := gd_some hf
    refine x_iast hx hb hK hP hD hS 1 0 rfl rfl i_1 _ rfl [(h0, .inr (0, [.ref h1])), (h1, .inl (cI, 256, .inl (upd C (z1.toNatClampNeg) z0)))] rfl dX0_setShut_37 (fun H locs hP hD hS => ?_)
    refine lv_iconst (v := 1) hx hb dX0_setShut_38 (by decide) ?_
    cases hf
    exact rt_z hQ hx hb hr rfl hlocks hP hD hS dX0_setShut_39
  have g21 : ∀ (C : Nat → Int32) (H : Heap) (locs : List Loc) (ls : Array Slot), fX0_setShut_21 p0 p1 C = some (w, C') → va_P D vwCl [(h0, .inr (0, [.ref h1])), (h1, .inl (cI, 256, .inl C))] H → va_D A [(h0, .inr (0, [.ref h1])), (h1, .inl (cI, 256, .inl C))] → va_S A s.heap H locs → lv_has ls 3 [(0, .ref h0), (1, .int p0), (2, .int p1)] → W p l e rmX0_setShut s m args below meth c H locs 0 0 Q (F0 m 21 ls []) := by
    intro  C H locs ls hf hP hD hS hl
    unfold fX0_setShut_21 at hf
    refine lv_aload_n hx hb dX0_setShut_21 rfl (lv_at hl 0 rfl) ?_
    refine va_get (D := D) (ci := 0) (v := .ref h1) (C := RX0) (T := TX0) (N := 1) hx hb hts iX0 hown hK hP 0 rfl rfl 0 (by decide) (hts (.fieldLink RX0 9 "LongCaterpillars$House" "cells" "[I") (List.mem_of_getElem? (i := 1) rfl)) (fun _ h9 => h9) rfl dX0_setShut_22 ?_
    refine lv_iconst (v := 4) hx hb dX0_setShut_25 (by decide) ?_
    refine lv_iload_n hx hb dX0_setShut_26 rfl (lv_at hl 1 rfl) ?_
    refine lv_iadd hx hb dX0_setShut_27 ?_
    refine lv_iload_n hx hb dX0_setShut_28 rfl (lv_at hl 2 rfl) ?_
    refine lv_if_eq (tgt := 36) hx hb dX0_setShut_29 (by decide) (fun c_2 => ?_) (fun c_2 => ?_)
    · have hf := br_pos c_2 hf
      refine lv_iconst (v := 0) hx hb dX0_setShut_36 (by decide) ?_
      exact g37  0 (4 + p0) C _ _ _ hf hP hD hS (lv_sub hl [] rfl)
    · have hf := br_neg c_2 hf
      refine lv_iconst (v := 1) hx hb dX0_setShut_32 (by decide) ?_
      refine lv_goto (tgt := 37) hx hb dX0_setShut_33 (by decide) ?_
      exact g37  1 (4 + p0) C _ _ _ hf hP hD hS (lv_sub hl [] rfl)
  unfold fX0_setShut at hf
  refine lv_iload_n hx hb dX0_setShut_0 rfl (lv_at hl 1 rfl) ?_
  obtain ⟨q, h_3, hf⟩ := bd_some hf
  obtain ⟨r_4, rfl⟩ : ∃ z, z = q := ⟨_, rfl⟩
  try dsimp only at hf
  refine cl_i (ws := [(h0, .inr (0, [.ref h1])), (h1, .inl (cI, 256, .inl C))]) (wc := []) (wr := [(h0, .inr (0, [.ref h1])), (h1, .inl (cI, 256, .inl C))]) (w1 := []) (ws' := [(h0, .inr (0, [.ref h1])), (h1, .inl (cI, 256, .inl C))]) hP hD hS hA [] [0, 1] [0, 1] rfl rfl (by decide) (by decide) rfl (by decide) (va_runSN (As := [.int p0]) (rest := []) ⟨hx, hb, hml, hown, hts⟩ (kX3_isRoom l D cI cB cL _ p0 r_4 h_3) ⟨va_cnB 1 hts gX0_setShut_X3_isRoom_n31 rfl rfl rfl hE.1.2.2.2.1 (hts (.initialized RX3) (List.mem_of_getElem? (i := 3) rfl)) (by decide +kernel) ⟨Nat.le_of_ble_eq_true rfl, Nat.le_of_ble_eq_true rfl⟩, hts (.static yX3_isRoom) (List.mem_of_getElem? (i := 2) rfl), trivial⟩ (pre_S hK hE hP hD hS hA [] rfl (by decide)) rfl rfl hl.1 rfl (lv_room (Nat.le_of_ble_eq_true rfl)) dX0_setShut_1 ⟨Nat.le_of_ble_eq_true rfl, Nat.le_of_ble_eq_true rfl⟩) (fun H locs hP hD hS => ?_)
  refine lv_if_eq (tgt := 19) hx hb dX0_setShut_4 (by decide) (fun c_5 => ?_) (fun c_5 => ?_)
  · have hf := br_pos c_5 hf
    refine lv_iconst (v := 0) hx hb dX0_setShut_19 (by decide) ?_
    cases hf
    exact rt_z hQ hx hb hr rfl hlocks hP hD hS dX0_setShut_20
  · have hf := br_neg c_5 hf
    refine lv_iload_n hx hb dX0_setShut_7 rfl (lv_at hl 2 rfl) ?_
    refine lv_if_eq (tgt := 21) hx hb dX0_setShut_8 (by decide) (fun c_6 => ?_) (fun c_6 => ?_)
    · have hf := br_pos c_6 hf
      exact g21  C _ _ _ hf hP hD hS (lv_sub hl [0, 1, 2] rfl)
    · have hf := br_neg c_6 hf
      refine lv_aload_n hx hb dX0_setShut_11 rfl (lv_at hl 0 rfl) ?_
      refine lv_iload_n hx hb dX0_setShut_12 rfl (lv_at hl 1 rfl) ?_
      obtain ⟨q, h_7, hf⟩ := bd_some hf
      obtain ⟨r_8, rfl⟩ : ∃ z, z = q := ⟨_, rfl⟩
      try dsimp only at hf
      refine cl_i (ws := [(h0, .inr (0, [.ref h1])), (h1, .inl (cI, 256, .inl C))]) (wc := [(h0, .inr (0, [.ref h1])), (h1, .inl (cI, 256, .inl C))]) (wr := []) (w1 := [(h0, .inr (0, [.ref h1])), (h1, .inl (cI, 256, .inl C))]) (ws' := [(h0, .inr (0, [.ref h1])), (h1, .inl (cI, 256, .inl C))]) hP hD hS hA [0, 1] [] [0, 1] rfl rfl (by decide) (by decide) rfl (by decide) (va_runV (As := [.int p0]) (rest := []) ⟨hx, hb, hml, hown, hts⟩ (kX0_isTaken l D cI cB cL h0 h1 _ C p0 r_8 h_7) (cwV 1 hts gX0_setShut_X0_isTaken rfl rfl rfl (by decide +kernel) ⟨Nat.le_of_ble_eq_true rfl, Nat.le_of_ble_eq_true rfl⟩) (pre_V (ci := 0) (q0 := 0) (T := TX0) (N := 1) hK hE hP hD hS hA [0, 1] rfl (by decide) rfl rfl) rfl rfl hl.1 rfl (lv_room (Nat.le_of_ble_eq_true rfl)) dX0_setShut_13 ⟨Nat.le_of_ble_eq_true rfl, Nat.le_of_ble_eq_true rfl⟩) (fun H locs hP hD hS => ?_)
      refine lv_if_eq (tgt := 21) hx hb dX0_setShut_16 (by decide) (fun c_9 => ?_) (fun c_9 => ?_)
      · have hf := br_pos c_9 hf
        exact g21  C _ _ _ hf hP hD hS (lv_sub hl [0, 1, 2] rfl)
      · have hf := br_neg c_9 hf
        refine lv_iconst (v := 0) hx hb dX0_setShut_19 (by decide) ?_
        cases hf
        exact rt_z hQ hx hb hr rfl hlocks hP hD hS dX0_setShut_20
abbrev rmX0_pullOut : Room := ({ frames := 4, cells := 0, slots := 0, locals := 65 })
set_option maxHeartbeats 4000000 in
set_option maxRecDepth 100000 in
theorem kX0_pullOut (l : Launch) (D : va_G) (cI cB cL : ClassId) (h0 : Nat) (h1 : Nat) (sz : Nat) (C : Nat → Int32) (p0 : Int32) (w : Int32) (C' : Nat → Int32) (hf : fX0_pullOut C p0 = some (w, C')) : Met l yX0_pullOut wsX0_pullOut rmX0_pullOut (mPc D (tyK cI cB cL) [.ref h0, .int p0] sz [(h0, .inr (0, [.ref h1])), (h1, .inl (cI, 256, .inl C))]) (mQi D w [(h0, .inr (0, [.ref h1])), (h1, .inl (cI, 256, .inl C'))] (va_A [(h0, .inr (0, [.ref h1])), (h1, .inl (cI, 256, .inl C))] sz)) 0 0 (va_A [(h0, .inr (0, [.ref h1])), (h1, .inl (cI, 256, .inl C))] sz) := by
  refine m_of (Qf := mQi D w [(h0, .inr (0, [.ref h1])), (h1, .inl (cI, 256, .inl C'))]) (cc := cX0_pullOut) (maxL := 3) (ret := (some .boolean)) (by decide) rfl (Nat.le_of_ble_eq_true rfl) ?_
  intro p e s m args below meth c A ls hsz hx hb hr hml hown hts hlocks hP hK hD hS hA hE hin hl Q hQ
  subst hsz
  have hl : lv_has ls 3 [(0, .ref h0), (1, .int p0)] := hl
  have hown : s.vm.findClass RX0 = some m.cls := hown
  have hl0 := hl
  have g33 : ∀ (k12 : Int32 → (Nat → Int32) → Option (Int32 × (Nat → Int32))) (hk12 : ∀ (v2 : Int32) (C : Nat → Int32) (H : Heap) (locs : List Loc) (ls : Array Slot), k12 v2 C = some (w, C') → va_P D vwCl [(h0, .inr (0, [.ref h1])), (h1, .inl (cI, 256, .inl C))] H → va_D A [(h0, .inr (0, [.ref h1])), (h1, .inl (cI, 256, .inl C))] → va_S A s.heap H locs → lv_has ls 3 [(0, .ref h0), (1, .int p0), (2, .int v2)] → W p l e rmX0_pullOut s m args below meth c H locs 0 0 Q (F0 m 12 ls [])) (v2 : Int32) (C : Nat → Int32) (H : Heap) (locs : List Loc) (ls : Array Slot), fX0_pullOut_33 k12 v2 C = some (w, C') → va_P D vwCl [(h0, .inr (0, [.ref h1])), (h1, .inl (cI, 256, .inl C))] H → va_D A [(h0, .inr (0, [.ref h1])), (h1, .inl (cI, 256, .inl C))] → va_S A s.heap H locs → lv_has ls 3 [(0, .ref h0), (1, .int p0), (2, .int v2)] → W p l e rmX0_pullOut s m args below meth c H locs 0 0 Q (F0 m 33 ls []) := by
    intro k12 hk12 v2 C H locs ls hf hP hD hS hl
    unfold fX0_pullOut_33 at hf
    refine lv_iinc (v := (v2 + 1)) (lv' := [(2, .int (v2 + 1)), (0, .ref h0), (1, .int p0)]) hx hb dX0_pullOut_33 hl (k := 2) rfl rfl (by decide) rfl (fun ls hl => ?_)
    refine lv_goto (tgt := 12) hx hb dX0_pullOut_36 (by decide) ?_
    exact hk12 (v2 + 1) C _ _ _ hf hP hD hS (lv_sub hl [1, 2, 0] rfl)
  have g12 : ∀ (n : Nat) (v2 : Int32) (C : Nat → Int32) (H : Heap) (locs : List Loc) (ls : Array Slot), fX0_pullOut_12 p0 n v2 C = some (w, C') → va_P D vwCl [(h0, .inr (0, [.ref h1])), (h1, .inl (cI, 256, .inl C))] H → va_D A [(h0, .inr (0, [.ref h1])), (h1, .inl (cI, 256, .inl C))] → va_S A s.heap H locs → lv_has ls 3 [(0, .ref h0), (1, .int p0), (2, .int v2)] → W p l e rmX0_pullOut s m args below meth c H locs 0 0 Q (F0 m 12 ls []) := by
    intro  n
    induction n with
    | zero =>
      intro v2 C H locs ls hf
      exact absurd hf (by rw [fX0_pullOut_12]; simp)
    | succ n ih =>
      intro v2 C H locs ls hf hP hD hS hl
      rw [fX0_pullOut_12] at hf
      refine lv_iload_n hx hb dX0_pullOut_12 rfl (lv_at hl 2 rfl) ?_
      refine lv_bipush (v := 36) hx hb dX0_pullOut_13 (by decide) ?_
      refine lv_icmp_ge (tgt := 39) hx hb dX0_pullOut_15 (by decide) (fun c_1 => ?_) (fun c_1 => ?_)
      · have hf := br_pos c_1 hf
        refine lv_aload_n hx hb dX0_pullOut_39 rfl (lv_at hl 0 rfl) ?_
        refine lv_iload_n hx hb dX0_pullOut_40 rfl (lv_at hl 1 rfl) ?_
        refine lv_iconst (v := 0) hx hb dX0_pullOut_41 (by decide) ?_
        refine lv_iconst (v := 3) hx hb dX0_pullOut_42 (by decide) ?_
        obtain ⟨q, h_2, hf⟩ := bd_some hf
        obtain ⟨C_3, rfl⟩ : ∃ z, z = q := ⟨_, rfl⟩
        try dsimp only at hf
        refine cl_v (ws := [(h0, .inr (0, [.ref h1])), (h1, .inl (cI, 256, .inl C))]) (wc := [(h0, .inr (0, [.ref h1])), (h1, .inl (cI, 256, .inl C))]) (wr := []) (w1 := [(h0, .inr (0, [.ref h1])), (h1, .inl (cI, 256, .inl C_3))]) (ws' := [(h0, .inr (0, [.ref h1])), (h1, .inl (cI, 256, .inl C_3))]) hP hD hS hA [0, 1] [] [0, 1] rfl rfl (by decide) (by decide) rfl (by decide) (va_runV (As := [.int p0, .int 0, .int 3]) (rest := []) ⟨hx, hb, hml, hown, hts⟩ (kX0_setNumber l D cI cB cL h0 h1 _ C p0 0 3 C_3 h_2) (cwV 3 hts gX0_pullOut_X0_setNumber rfl rfl rfl (by decide +kernel) ⟨Nat.le_of_ble_eq_true rfl, Nat.le_of_ble_eq_true rfl⟩) (pre_V (ci := 0) (q0 := 0) (T := TX0) (N := 1) hK hE hP hD hS hA [0, 1] rfl (by decide) rfl rfl) rfl rfl hl.1 rfl (lv_room (Nat.le_of_ble_eq_true rfl)) dX0_pullOut_43 ⟨Nat.le_of_ble_eq_true rfl, Nat.le_of_ble_eq_true rfl⟩) (fun H locs hP hD hS => ?_)
        refine lv_aload_n hx hb dX0_pullOut_46 rfl (lv_at hl 0 rfl) ?_
        refine lv_iload_n hx hb dX0_pullOut_47 rfl (lv_at hl 1 rfl) ?_
        refine lv_iconst (v := 1) hx hb dX0_pullOut_48 (by decide) ?_
        refine lv_iconst (v := 0) hx hb dX0_pullOut_49 (by decide) ?_
        obtain ⟨q, h_4, hf⟩ := bd_some hf
        obtain ⟨C_5, rfl⟩ : ∃ z, z = q := ⟨_, rfl⟩
        try dsimp only at hf
        refine cl_v (ws := [(h0, .inr (0, [.ref h1])), (h1, .inl (cI, 256, .inl C_3))]) (wc := [(h0, .inr (0, [.ref h1])), (h1, .inl (cI, 256, .inl C_3))]) (wr := []) (w1 := [(h0, .inr (0, [.ref h1])), (h1, .inl (cI, 256, .inl C_5))]) (ws' := [(h0, .inr (0, [.ref h1])), (h1, .inl (cI, 256, .inl C_5))]) hP hD hS hA [0, 1] [] [0, 1] rfl rfl (by decide) (by decide) rfl (by decide) (va_runV (As := [.int p0, .int 1, .int 0]) (rest := []) ⟨hx, hb, hml, hown, hts⟩ (kX0_setNumber l D cI cB cL h0 h1 _ C_3 p0 1 0 C_5 h_4) (cwV 3 hts gX0_pullOut_X0_setNumber rfl rfl rfl (by decide +kernel) ⟨Nat.le_of_ble_eq_true rfl, Nat.le_of_ble_eq_true rfl⟩) (pre_V (ci := 0) (q0 := 0) (T := TX0) (N := 1) hK hE hP hD hS hA [0, 1] rfl (by decide) rfl rfl) rfl rfl hl.1 rfl (lv_room (Nat.le_of_ble_eq_true rfl)) dX0_pullOut_50 ⟨Nat.le_of_ble_eq_true rfl, Nat.le_of_ble_eq_true rfl⟩) (fun H locs hP hD hS => ?_)
        refine lv_aload_n hx hb dX0_pullOut_53 rfl (lv_at hl 0 rfl) ?_
        refine lv_iload_n hx hb dX0_pullOut_54 rfl (lv_at hl 1 rfl) ?_
        refine lv_iconst (v := 2) hx hb dX0_pullOut_55 (by decide) ?_
        refine lv_iconst (v := 0) hx hb dX0_pullOut_56 (by decide) ?_
        obtain ⟨q, h_6, hf⟩ := bd_some hf
        obtain ⟨C_7, rfl⟩ : ∃ z, z = q := ⟨_, rfl⟩
        try dsimp only at hf
        refine cl_v (ws := [(h0, .inr (0, [.ref h1])), (h1, .inl (cI, 256, .inl C_5))]) (wc := [(h0, .inr (0, [.ref h1])), (h1, .inl (cI, 256, .inl C_5))]) (wr := []) (w1 := [(h0, .inr (0, [.ref h1])), (h1, .inl (cI, 256, .inl C_7))]) (ws' := [(h0, .inr (0, [.ref h1])), (h1, .inl (cI, 256, .inl C_7))]) hP hD hS hA [0, 1] [] [0, 1] rfl rfl (by decide) (by decide) rfl (by decide) (va_runV (As := [.int p0, .int 2, .int 0]) (rest := []) ⟨hx, hb, hml, hown, hts⟩ (kX0_setNumber l D cI cB cL h0 h1 _ C_5 p0 2 0 C_7 h_6) (cwV 3 hts gX0_pullOut_X0_setNumber rfl rfl rfl (by decide +kernel) ⟨Nat.le_of_ble_eq_true rfl, Nat.le_of_ble_eq_true rfl⟩) (pre_V (ci := 0) (q0 := 0) (T := TX0) (N := 1) hK hE hP hD hS hA [0, 1] rfl (by decide) rfl rfl) rfl rfl hl.1 rfl (lv_room (Nat.le_of_ble_eq_true rfl)) dX0_pullOut_57 ⟨Nat.le_of_ble_eq_true rfl, Nat.le_of_ble_eq_true rfl⟩) (fun H locs hP hD hS => ?_)
        refine lv_iconst (v := 1) hx hb dX0_pullOut_60 (by decide) ?_
        cases hf
        exact rt_z hQ hx hb hr rfl hlocks hP hD hS dX0_pullOut_61
      · have hf := br_neg c_1 hf
        refine lv_aload_n hx hb dX0_pullOut_18 rfl (lv_at hl 0 rfl) ?_
        refine lv_iload_n hx hb dX0_pullOut_19 rfl (lv_at hl 2 rfl) ?_
        obtain ⟨q, h_8, hf⟩ := bd_some hf
        obtain ⟨r_9, rfl⟩ : ∃ z, z = q := ⟨_, rfl⟩
        try dsimp only at hf
        refine cl_i (ws := [(h0, .inr (0, [.ref h1])), (h1, .inl (cI, 256, .inl C))]) (wc := [(h0, .inr (0, [.ref h1])), (h1, .inl (cI, 256, .inl C))]) (wr := []) (w1 := [(h0, .inr (0, [.ref h1])), (h1, .inl (cI, 256, .inl C))]) (ws' := [(h0, .inr (0, [.ref h1])), (h1, .inl (cI, 256, .inl C))]) hP hD hS hA [0, 1] [] [0, 1] rfl rfl (by decide) (by decide) rfl (by decide) (va_runV (As := [.int v2]) (rest := []) ⟨hx, hb, hml, hown, hts⟩ (kX0_takerOf l D cI cB cL h0 h1 _ C v2 r_9 h_8) (cwV 1 hts gX0_pullOut_X0_takerOf rfl rfl rfl (by decide +kernel) ⟨Nat.le_of_ble_eq_true rfl, Nat.le_of_ble_eq_true rfl⟩) (pre_V (ci := 0) (q0 := 0) (T := TX0) (N := 1) hK hE hP hD hS hA [0, 1] rfl (by decide) rfl rfl) rfl rfl hl.1 rfl (lv_room (Nat.le_of_ble_eq_true rfl)) dX0_pullOut_20 ⟨Nat.le_of_ble_eq_true rfl, Nat.le_of_ble_eq_true rfl⟩) (fun H locs hP hD hS => ?_)
        refine lv_iload_n hx hb dX0_pullOut_23 rfl (lv_at hl 1 rfl) ?_
        refine lv_icmp_ne (tgt := 33) hx hb dX0_pullOut_24 (by decide) (fun c_10 => ?_) (fun c_10 => ?_)
        · have hf := br_neg c_10 hf
          exact g33  (fX0_pullOut_12 p0 n) ih v2 C _ _ _ hf hP hD hS (lv_sub hl [0, 1, 2] rfl)
        · have hf := br_pos c_10 hf
          refine lv_aload_n hx hb dX0_pullOut_27 rfl (lv_at hl 0 rfl) ?_
          refine lv_iload_n hx hb dX0_pullOut_28 rfl (lv_at hl 2 rfl) ?_
          refine lv_iconst (v := (-1)) hx hb dX0_pullOut_29 (by decide) ?_
          obtain ⟨q, h_11, hf⟩ := bd_some hf
          obtain ⟨C_12, rfl⟩ : ∃ z, z = q := ⟨_, rfl⟩
          try dsimp only at hf
          refine cl_v (ws := [(h0, .inr (0, [.ref h1])), (h1, .inl (cI, 256, .inl C))]) (wc := [(h0, .inr (0, [.ref h1])), (h1, .inl (cI, 256, .inl C))]) (wr := []) (w1 := [(h0, .inr (0, [.ref h1])), (h1, .inl (cI, 256, .inl C_12))]) (ws' := [(h0, .inr (0, [.ref h1])), (h1, .inl (cI, 256, .inl C_12))]) hP hD hS hA [0, 1] [] [0, 1] rfl rfl (by decide) (by decide) rfl (by decide) (va_runV (As := [.int v2, .int (-1)]) (rest := []) ⟨hx, hb, hml, hown, hts⟩ (kX0_setTaker l D cI cB cL h0 h1 _ C v2 (-1) C_12 h_11) (cwV 2 hts gX0_pullOut_X0_setTaker rfl rfl rfl (by decide +kernel) ⟨Nat.le_of_ble_eq_true rfl, Nat.le_of_ble_eq_true rfl⟩) (pre_V (ci := 0) (q0 := 0) (T := TX0) (N := 1) hK hE hP hD hS hA [0, 1] rfl (by decide) rfl rfl) rfl rfl hl.1 rfl (lv_room (Nat.le_of_ble_eq_true rfl)) dX0_pullOut_30 ⟨Nat.le_of_ble_eq_true rfl, Nat.le_of_ble_eq_true rfl⟩) (fun H locs hP hD hS => ?_)
          exact g33  (fX0_pullOut_12 p0 n) ih v2 C_12 _ _ _ hf hP hD hS (lv_sub hl [0, 1, 2] rfl)
  unfold fX0_pullOut at hf
  refine lv_aload_n hx hb dX0_pullOut_0 rfl (lv_at hl 0 rfl) ?_
  refine lv_iload_n hx hb dX0_pullOut_1 rfl (lv_at hl 1 rfl) ?_
  obtain ⟨q, h_13, hf⟩ := bd_some hf
  obtain ⟨r_14, rfl⟩ : ∃ z, z = q := ⟨_, rfl⟩
  try dsimp only at hf
  refine cl_i (ws := [(h0, .inr (0, [.ref h1])), (h1, .inl (cI, 256, .inl C))]) (wc := [(h0, .inr (0, [.ref h1])), (h1, .inl (cI, 256, .inl C))]) (wr := []) (w1 := [(h0, .inr (0, [.ref h1])), (h1, .inl (cI, 256, .inl C))]) (ws' := [(h0, .inr (0, [.ref h1])), (h1, .inl (cI, 256, .inl C))]) hP hD hS hA [0, 1] [] [0, 1] rfl rfl (by decide) (by decide) rfl (by decide) (va_runV (As := [.int p0]) (rest := []) ⟨hx, hb, hml, hown, hts⟩ (kX0_isUnderWay l D cI cB cL h0 h1 _ C p0 r_14 h_13) (cwV 1 hts gX0_pullOut_X0_isUnderWay rfl rfl rfl (by decide +kernel) ⟨Nat.le_of_ble_eq_true rfl, Nat.le_of_ble_eq_true rfl⟩) (pre_V (ci := 0) (q0 := 0) (T := TX0) (N := 1) hK hE hP hD hS hA [0, 1] rfl (by decide) rfl rfl) rfl rfl hl.1 rfl (lv_room (Nat.le_of_ble_eq_true rfl)) dX0_pullOut_2 ⟨Nat.le_of_ble_eq_true rfl, Nat.le_of_ble_eq_true rfl⟩) (fun H locs hP hD hS => ?_)
  refine lv_if_ne (tgt := 10) hx hb dX0_pullOut_5 (by decide) (fun c_15 => ?_) (fun c_15 => ?_)
  · have hf := br_neg c_15 hf
    refine lv_iconst (v := 0) hx hb dX0_pullOut_10 (by decide) ?_
    refine lv_istore_n (lv' := [(2, .int 0), (0, .ref h0), (1, .int p0)]) hx hb dX0_pullOut_11 rfl hl (by decide) rfl (fun ls hl => ?_)
    exact g12  5000 0 C _ _ _ hf hP hD hS (lv_sub hl [1, 2, 0] rfl)
  · have hf := br_pos c_15 hf
    refine lv_iconst (v := 0) hx hb dX0_pullOut_8 (by decide) ?_
    cases hf
    exact rt_z hQ hx hb hr rfl hlocks hP hD hS dX0_pullOut_9
abbrev rmX0_readFrom : Room := ({ frames := 2, cells := 0, slots := 0, locals := 64 })
set_option maxHeartbeats 4000000 in
set_option maxRecDepth 100000 in
theorem kX0_readFrom (l : Launch) (D : va_G) (cI cB cL : ClassId) (h0 : Nat) (h1 : Nat) (s0 : Nat) (s1 : Nat) (sz : Nat) (C : Nat → Int32) (G : Nat → Int32) (p1 : Int32) (C' : Nat → Int32) (hf : fX0_readFrom C G p1 = some C') : Met l yX0_readFrom wsX0_readFrom rmX0_readFrom (mPc D (tyK cI cB cL) [.ref h0, .ref s0, .int p1] sz [(h0, .inr (0, [.ref h1])), (h1, .inl (cI, 256, .inl C)), (s0, .inr (1, [.ref s1])), (s1, .inl (cI, 4096, .inl G))]) (mQv D [(h0, .inr (0, [.ref h1])), (h1, .inl (cI, 256, .inl C')), (s0, .inr (1, [.ref s1])), (s1, .inl (cI, 4096, .inl G))] (va_A [(h0, .inr (0, [.ref h1])), (h1, .inl (cI, 256, .inl C)), (s0, .inr (1, [.ref s1])), (s1, .inl (cI, 4096, .inl G))] sz)) 0 0 (va_A [(h0, .inr (0, [.ref h1])), (h1, .inl (cI, 256, .inl C)), (s0, .inr (1, [.ref s1])), (s1, .inl (cI, 4096, .inl G))] sz) := by
  refine m_of (Qf := mQv D [(h0, .inr (0, [.ref h1])), (h1, .inl (cI, 256, .inl C')), (s0, .inr (1, [.ref s1])), (s1, .inl (cI, 4096, .inl G))]) (cc := cX0_readFrom) (maxL := 3) (ret := none) (by decide) rfl (Nat.le_of_ble_eq_true rfl) ?_
  intro p e s m args below meth c A ls hsz hx hb hr hml hown hts hlocks hP hK hD hS hA hE hin hl Q hQ
  subst hsz
  have hl : lv_has ls 3 [(0, .ref h0), (1, .ref s0), (2, .int p1)] := hl
  have hown : s.vm.findClass RX0 = some m.cls := hown
  have iX0 : ∀ w ∈ u_ws RX0 TX0 1, w ∈ wsX0_readFrom := by decide +kernel
  have iX1 : ∀ w ∈ u_ws RX1 TX1 1, w ∈ wsX0_readFrom := by decide +kernel
  unfold fX0_readFrom at hf
  refine lv_iload_n hx hb dX0_readFrom_0 rfl (lv_at hl 2 rfl) ?_
  obtain ⟨q, h_1, hf⟩ := bd_some hf
  obtain ⟨r_2, rfl⟩ : ∃ z, z = q := ⟨_, rfl⟩
  try dsimp only at hf
  refine cl_i (ws := [(h0, .inr (0, [.ref h1])), (h1, .inl (cI, 256, .inl C)), (s0, .inr (1, [.ref s1])), (s1, .inl (cI, 4096, .inl G))]) (wc := []) (wr := [(h0, .inr (0, [.ref h1])), (h1, .inl (cI, 256, .inl C)), (s0, .inr (1, [.ref s1])), (s1, .inl (cI, 4096, .inl G))]) (w1 := []) (ws' := [(h0, .inr (0, [.ref h1])), (h1, .inl (cI, 256, .inl C)), (s0, .inr (1, [.ref s1])), (s1, .inl (cI, 4096, .inl G))]) hP hD hS hA [] [0, 1, 2, 3] [0, 1, 2, 3] rfl rfl (by decide) (by decide) rfl (by decide) (va_runS (As := [.int p1]) (rest := []) ⟨hx, hb, hml, hown, hts⟩ (kX1_isPlace l D cI cB cL _ p1 r_2 h_1) (va_cwS 1 hts gX0_readFrom_X1_isPlace rfl rfl rfl (by decide +kernel) ⟨Nat.le_of_ble_eq_true rfl, Nat.le_of_ble_eq_true rfl⟩) (pre_S hK hE hP hD hS hA [] rfl (by decide)) rfl rfl hl.1 rfl (lv_room (Nat.le_of_ble_eq_true rfl)) dX0_readFrom_1 ⟨Nat.le_of_ble_eq_true rfl, Nat.le_of_ble_eq_true rfl⟩) (fun H locs hP hD hS => ?_)
  refine lv_if_eq (tgt := 27) hx hb dX0_readFrom_4 (by decide) (fun c_3 => ?_) (fun c_3 => ?_)
  · have hf := br_pos c_3 hf
    cases hf
    exact rt_v hQ hx hb hr hlocks hP hD hS dX0_readFrom_27
  · have hf := br_neg c_3 hf
    refine lv_aload_n hx hb dX0_readFrom_7 rfl (lv_at hl 1 rfl) ?_
    refine va_getN (D := D) (ci := 1) (v := .ref s1) (C := RX1) (T := TX1) (N := 1) hx hb hts iX1 hown hK hP 2 rfl rfl 0 (by decide) (va_Nw.use rfl hE.1.2.2.2.2.2.2) (fun _ h9 => h9) rfl dX0_readFrom_8 ?_
    refine lv_iload_n hx hb dX0_readFrom_11 rfl (lv_at hl 2 rfl) ?_
    refine lv_sipush (v := 256) hx hb dX0_readFrom_12 (by decide) ?_
    refine lv_imul hx hb dX0_readFrom_15 ?_
    refine lv_aload_n hx hb dX0_readFrom_16 rfl (lv_at hl 0 rfl) ?_
    refine va_get (D := D) (ci := 0) (v := .ref h1) (C := RX0) (T := TX0) (N := 1) hx hb hts iX0 hown hK hP 0 rfl rfl 0 (by decide) (hts (.fieldLink RX0 9 "LongCaterpillars$House" "cells" "[I") (List.mem_of_getElem? (i := 1) rfl)) (fun _ h9 => h9) rfl dX0_readFrom_17 ?_
    refine lv_iconst (v := 0) hx hb dX0_readFrom_20 (by decide) ?_
    refine lv_sipush (v := 256) hx hb dX0_readFrom_21 (by decide) ?_
    obtain ⟨y_4, hf⟩ := gz_some hf
    obtain ⟨y_4_0, y_4_1, y_4_2, y_4_3, y_4_4⟩ := cpok_of y_4
    refine va_copyi hx hb (hml.trans hl.1.symm) hown (hts (.methodLink RX0 18 arraycopyName) (List.mem_of_getElem? (i := 2) rfl)) (hts (.native arraycopyName) (List.mem_of_getElem? (i := 3) rfl)) (hts (.static arraycopyName) (List.mem_of_getElem? (i := 4) rfl)) (hts (.initialized "java/lang/System") (List.mem_of_getElem? (i := 5) rfl)) hK hP hD hS 3 1 0 0 rfl rfl rfl rfl rfl y_4_0 y_4_1 y_4_2 y_4_3 y_4_4 (fun _ _ => rfl) (Nat.le_of_ble_eq_true rfl) (by decide +kernel) dX0_readFrom_24 (fun H locs hP hD hS => ?_)
    have hP : va_P D vwCl [(h0, .inr (0, [.ref h1])), (h1, .inl (cI, 256, .inl (va_cpy G C ((p1 * 256).toNatClampNeg) 0 256))), (s0, .inr (1, [.ref s1])), (s1, .inl (cI, 4096, .inl G))] H := hP
    have hD : va_D A [(h0, .inr (0, [.ref h1])), (h1, .inl (cI, 256, .inl (va_cpy G C ((p1 * 256).toNatClampNeg) 0 256))), (s0, .inr (1, [.ref s1])), (s1, .inl (cI, 4096, .inl G))] := hD
    cases hf
    exact rt_v hQ hx hb hr hlocks hP hD hS dX0_readFrom_27
abbrev rmX0_copyFrom : Room := ({ frames := 2, cells := 0, slots := 0, locals := 64 })
set_option maxHeartbeats 4000000 in
set_option maxRecDepth 100000 in
theorem kX0_copyFrom (l : Launch) (D : va_G) (cI cB cL : ClassId) (h0 : Nat) (h1 : Nat) (g0 : Nat) (g1 : Nat) (sz : Nat) (C : Nat → Int32) (E : Nat → Int32) (C' : Nat → Int32) (hf : fX0_copyFrom C E = some C') : Met l yX0_copyFrom wsX0_copyFrom rmX0_copyFrom (mPc D (tyK cI cB cL) [.ref h0, .ref g0] sz [(h0, .inr (0, [.ref h1])), (h1, .inl (cI, 256, .inl C)), (g0, .inr (0, [.ref g1])), (g1, .inl (cI, 256, .inl E))]) (mQv D [(h0, .inr (0, [.ref h1])), (h1, .inl (cI, 256, .inl C')), (g0, .inr (0, [.ref g1])), (g1, .inl (cI, 256, .inl E))] (va_A [(h0, .inr (0, [.ref h1])), (h1, .inl (cI, 256, .inl C)), (g0, .inr (0, [.ref g1])), (g1, .inl (cI, 256, .inl E))] sz)) 0 0 (va_A [(h0, .inr (0, [.ref h1])), (h1, .inl (cI, 256, .inl C)), (g0, .inr (0, [.ref g1])), (g1, .inl (cI, 256, .inl E))] sz) := by
  refine m_of (Qf := mQv D [(h0, .inr (0, [.ref h1])), (h1, .inl (cI, 256, .inl C')), (g0, .inr (0, [.ref g1])), (g1, .inl (cI, 256, .inl E))]) (cc := cX0_copyFrom) (maxL := 2) (ret := none) (by decide) rfl (Nat.le_of_ble_eq_true rfl) ?_
  intro p e s m args below meth c A ls hsz hx hb hr hml hown hts hlocks hP hK hD hS hA hE hin hl Q hQ
  subst hsz
  have hl : lv_has ls 2 [(0, .ref h0), (1, .ref g0)] := hl
  have hown : s.vm.findClass RX0 = some m.cls := hown
  have iX0 : ∀ w ∈ u_ws RX0 TX0 1, w ∈ wsX0_copyFrom := by decide +kernel
  unfold fX0_copyFrom at hf
  refine lv_aload_n hx hb dX0_copyFrom_0 rfl (lv_at hl 1 rfl) ?_
  refine va_get (D := D) (ci := 0) (v := .ref g1) (C := RX0) (T := TX0) (N := 1) hx hb hts iX0 hown hK hP 2 rfl rfl 0 (by decide) (hts (.fieldLink RX0 9 "LongCaterpillars$House" "cells" "[I") (List.mem_of_getElem? (i := 1) rfl)) (fun _ h9 => h9) rfl dX0_copyFrom_1 ?_
  refine lv_iconst (v := 0) hx hb dX0_copyFrom_4 (by decide) ?_
  refine lv_aload_n hx hb dX0_copyFrom_5 rfl (lv_at hl 0 rfl) ?_
  refine va_get (D := D) (ci := 0) (v := .ref h1) (C := RX0) (T := TX0) (N := 1) hx hb hts iX0 hown hK hP 0 rfl rfl 0 (by decide) (hts (.fieldLink RX0 9 "LongCaterpillars$House" "cells" "[I") (List.mem_of_getElem? (i := 1) rfl)) (fun _ h9 => h9) rfl dX0_copyFrom_6 ?_
  refine lv_iconst (v := 0) hx hb dX0_copyFrom_9 (by decide) ?_
  refine lv_sipush (v := 256) hx hb dX0_copyFrom_10 (by decide) ?_
  obtain ⟨y_1, hf⟩ := gz_some hf
  obtain ⟨y_1_0, y_1_1, y_1_2, y_1_3, y_1_4⟩ := cpok_of y_1
  refine va_copyi hx hb (hml.trans hl.1.symm) hown (hts (.methodLink RX0 18 arraycopyName) (List.mem_of_getElem? (i := 2) rfl)) (hts (.native arraycopyName) (List.mem_of_getElem? (i := 3) rfl)) (hts (.static arraycopyName) (List.mem_of_getElem? (i := 4) rfl)) (hts (.initialized "java/lang/System") (List.mem_of_getElem? (i := 5) rfl)) hK hP hD hS 3 1 0 0 rfl rfl rfl rfl rfl y_1_0 y_1_1 y_1_2 y_1_3 y_1_4 (fun _ _ => rfl) (Nat.le_of_ble_eq_true rfl) (by decide +kernel) dX0_copyFrom_13 (fun H locs hP hD hS => ?_)
  have hP : va_P D vwCl [(h0, .inr (0, [.ref h1])), (h1, .inl (cI, 256, .inl (va_cpy E C 0 0 256))), (g0, .inr (0, [.ref g1])), (g1, .inl (cI, 256, .inl E))] H := hP
  have hD : va_D A [(h0, .inr (0, [.ref h1])), (h1, .inl (cI, 256, .inl (va_cpy E C 0 0 256))), (g0, .inr (0, [.ref g1])), (g1, .inl (cI, 256, .inl E))] := hD
  cases hf
  exact rt_v hQ hx hb hr hlocks hP hD hS dX0_copyFrom_16
abbrev rmX0_isThrough : Room := ({ frames := 4, cells := 0, slots := 0, locals := 67 })
set_option maxHeartbeats 4000000 in
set_option maxRecDepth 100000 in
theorem kX0_isThrough (l : Launch) (D : va_G) (cI cB cL : ClassId) (h0 : Nat) (h1 : Nat) (sz : Nat) (C : Nat → Int32) (w : Int32) (hf : fX0_isThrough C = some w) : Met l yX0_isThrough wsX0_isThrough rmX0_isThrough (mPc D (tyK cI cB cL) [.ref h0] sz [(h0, .inr (0, [.ref h1])), (h1, .inl (cI, 256, .inl C))]) (mQi D w [(h0, .inr (0, [.ref h1])), (h1, .inl (cI, 256, .inl C))] (va_A [(h0, .inr (0, [.ref h1])), (h1, .inl (cI, 256, .inl C))] sz)) 0 0 (va_A [(h0, .inr (0, [.ref h1])), (h1, .inl (cI, 256, .inl C))] sz) := by
  refine m_of (Qf := mQi D w [(h0, .inr (0, [.ref h1])), (h1, .inl (cI, 256, .inl C))]) (cc := cX0_isThrough) (maxL := 1) (ret := (some .boolean)) (by decide) rfl (Nat.le_of_ble_eq_true rfl) ?_
  intro p e s m args below meth c A ls hsz hx hb hr hml hown hts hlocks hP hK hD hS hA hE hin hl Q hQ
  subst hsz
  have hl : lv_has ls 1 [(0, .ref h0)] := hl
  have hown : s.vm.findClass RX0 = some m.cls := hown
  unfold fX0_isThrough at hf
  refine lv_aload_n hx hb dX0_isThrough_0 rfl (lv_at hl 0 rfl) ?_
  refine lv_iconst (v := 0) hx hb dX0_isThrough_1 (by decide) ?_
  obtain ⟨q, h_1, hf⟩ := bd_some hf
  obtain ⟨r_2, rfl⟩ : ∃ z, z = q := ⟨_, rfl⟩
  try dsimp only at hf
  refine cl_i (ws := [(h0, .inr (0, [.ref h1])), (h1, .inl (cI, 256, .inl C))]) (wc := [(h0, .inr (0, [.ref h1])), (h1, .inl (cI, 256, .inl C))]) (wr := []) (w1 := [(h0, .inr (0, [.ref h1])), (h1, .inl (cI, 256, .inl C))]) (ws' := [(h0, .inr (0, [.ref h1])), (h1, .inl (cI, 256, .inl C))]) hP hD hS hA [0, 1] [] [0, 1] rfl rfl (by decide) (by decide) rfl (by decide) (va_runV (As := [.int 0]) (rest := []) ⟨hx, hb, hml, hown, hts⟩ (kX0_countWhere l D cI cB cL h0 h1 _ C 0 r_2 h_1) (cwV 1 hts gX0_isThrough_X0_countWhere rfl rfl rfl (by decide +kernel) ⟨Nat.le_of_ble_eq_true rfl, Nat.le_of_ble_eq_true rfl⟩) (pre_V (ci := 0) (q0 := 0) (T := TX0) (N := 1) hK hE hP hD hS hA [0, 1] rfl (by decide) rfl rfl) rfl rfl hl.1 rfl (lv_room (Nat.le_of_ble_eq_true rfl)) dX0_isThrough_2 ⟨Nat.le_of_ble_eq_true rfl, Nat.le_of_ble_eq_true rfl⟩) (fun H locs hP hD hS => ?_)
  refine lv_if_ne (tgt := 20) hx hb dX0_isThrough_5 (by decide) (fun c_3 => ?_) (fun c_3 => ?_)
  · have hf := br_neg c_3 hf
    refine lv_iconst (v := 0) hx hb dX0_isThrough_20 (by decide) ?_
    cases hf
    exact rt_z hQ hx hb hr rfl hlocks hP hD hS dX0_isThrough_21
  · have hf := br_pos c_3 hf
    refine lv_aload_n hx hb dX0_isThrough_8 rfl (lv_at hl 0 rfl) ?_
    refine lv_iconst (v := 1) hx hb dX0_isThrough_9 (by decide) ?_
    obtain ⟨q, h_4, hf⟩ := bd_some hf
    obtain ⟨r_5, rfl⟩ : ∃ z, z = q := ⟨_, rfl⟩
    try dsimp only at hf
    refine cl_i (ws := [(h0, .inr (0, [.ref h1])), (h1, .inl (cI, 256, .inl C))]) (wc := [(h0, .inr (0, [.ref h1])), (h1, .inl (cI, 256, .inl C))]) (wr := []) (w1 := [(h0, .inr (0, [.ref h1])), (h1, .inl (cI, 256, .inl C))]) (ws' := [(h0, .inr (0, [.ref h1])), (h1, .inl (cI, 256, .inl C))]) hP hD hS hA [0, 1] [] [0, 1] rfl rfl (by decide) (by decide) rfl (by decide) (va_runV (As := [.int 1]) (rest := []) ⟨hx, hb, hml, hown, hts⟩ (kX0_countWhere l D cI cB cL h0 h1 _ C 1 r_5 h_4) (cwV 1 hts gX0_isThrough_X0_countWhere rfl rfl rfl (by decide +kernel) ⟨Nat.le_of_ble_eq_true rfl, Nat.le_of_ble_eq_true rfl⟩) (pre_V (ci := 0) (q0 := 0) (T := TX0) (N := 1) hK hE hP hD hS hA [0, 1] rfl (by decide) rfl rfl) rfl rfl hl.1 rfl (lv_room (Nat.le_of_ble_eq_true rfl)) dX0_isThrough_10 ⟨Nat.le_of_ble_eq_true rfl, Nat.le_of_ble_eq_true rfl⟩) (fun H locs hP hD hS => ?_)
    refine lv_if_ne (tgt := 20) hx hb dX0_isThrough_13 (by decide) (fun c_6 => ?_) (fun c_6 => ?_)
    · have hf := br_neg c_6 hf
      refine lv_iconst (v := 0) hx hb dX0_isThrough_20 (by decide) ?_
      cases hf
      exact rt_z hQ hx hb hr rfl hlocks hP hD hS dX0_isThrough_21
    · have hf := br_pos c_6 hf
      refine lv_iconst (v := 1) hx hb dX0_isThrough_16 (by decide) ?_
      refine lv_goto (tgt := 21) hx hb dX0_isThrough_17 (by decide) ?_
      cases hf
      exact rt_z hQ hx hb hr rfl hlocks hP hD hS dX0_isThrough_21
abbrev rmX0_goneSet : Room := ({ frames := 3, cells := 0, slots := 0, locals := 44 })
set_option maxHeartbeats 4000000 in
set_option maxRecDepth 100000 in
theorem kX0_goneSet (l : Launch) (D : va_G) (cI cB cL : ClassId) (h0 : Nat) (h1 : Nat) (sz : Nat) (C : Nat → Int32) (w : Int32) (hf : fX0_goneSet C = some w) : Met l yX0_goneSet wsX0_goneSet rmX0_goneSet (mPc D (tyK cI cB cL) [.ref h0] sz [(h0, .inr (0, [.ref h1])), (h1, .inl (cI, 256, .inl C))]) (mQi D w [(h0, .inr (0, [.ref h1])), (h1, .inl (cI, 256, .inl C))] (va_A [(h0, .inr (0, [.ref h1])), (h1, .inl (cI, 256, .inl C))] sz)) 0 0 (va_A [(h0, .inr (0, [.ref h1])), (h1, .inl (cI, 256, .inl C))] sz) := by
  refine m_of (Qf := mQi D w [(h0, .inr (0, [.ref h1])), (h1, .inl (cI, 256, .inl C))]) (cc := cX0_goneSet) (maxL := 3) (ret := (some .int)) (by decide) rfl (Nat.le_of_ble_eq_true rfl) ?_
  intro p e s m args below meth c A ls hsz hx hb hr hml hown hts hlocks hP hK hD hS hA hE hin hl Q hQ
  subst hsz
  have hl : lv_has ls 3 [(0, .ref h0)] := hl
  have hown : s.vm.findClass RX0 = some m.cls := hown
  have hl0 := hl
  have g25 : ∀ (k4 : Int32 → Int32 → Option (Int32)) (hk4 : ∀ (v1 : Int32) (v2 : Int32) (H : Heap) (locs : List Loc) (ls : Array Slot), k4 v1 v2 = some w → va_P D vwCl [(h0, .inr (0, [.ref h1])), (h1, .inl (cI, 256, .inl C))] H → va_D A [(h0, .inr (0, [.ref h1])), (h1, .inl (cI, 256, .inl C))] → va_S A s.heap H locs → lv_has ls 3 [(0, .ref h0), (1, .int v1), (2, .int v2)] → W p l e rmX0_goneSet s m args below meth c H locs 0 0 Q (F0 m 4 ls [])) (v1 : Int32) (v2 : Int32) (H : Heap) (locs : List Loc) (ls : Array Slot), fX0_goneSet_25 k4 v1 v2 = some w → va_P D vwCl [(h0, .inr (0, [.ref h1])), (h1, .inl (cI, 256, .inl C))] H → va_D A [(h0, .inr (0, [.ref h1])), (h1, .inl (cI, 256, .inl C))] → va_S A s.heap H locs → lv_has ls 3 [(0, .ref h0), (1, .int v1), (2, .int v2)] → W p l e rmX0_goneSet s m args below meth c H locs 0 0 Q (F0 m 25 ls []) := by
    intro k4 hk4 v1 v2 H locs ls hf hP hD hS hl
    unfold fX0_goneSet_25 at hf
    refine lv_iinc (v := (v2 + 1)) (lv' := [(2, .int (v2 + 1)), (0, .ref h0), (1, .int v1)]) hx hb dX0_goneSet_25 hl (k := 2) rfl rfl (by decide) rfl (fun ls hl => ?_)
    refine lv_goto (tgt := 4) hx hb dX0_goneSet_28 (by decide) ?_
    exact hk4 v1 (v2 + 1) _ _ _ hf hP hD hS (lv_sub hl [1, 2, 0] rfl)
  have g4 : ∀ (n : Nat) (v1 : Int32) (v2 : Int32) (H : Heap) (locs : List Loc) (ls : Array Slot), fX0_goneSet_4 C n v1 v2 = some w → va_P D vwCl [(h0, .inr (0, [.ref h1])), (h1, .inl (cI, 256, .inl C))] H → va_D A [(h0, .inr (0, [.ref h1])), (h1, .inl (cI, 256, .inl C))] → va_S A s.heap H locs → lv_has ls 3 [(0, .ref h0), (1, .int v1), (2, .int v2)] → W p l e rmX0_goneSet s m args below meth c H locs 0 0 Q (F0 m 4 ls []) := by
    intro  n
    induction n with
    | zero =>
      intro v1 v2 H locs ls hf
      exact absurd hf (by rw [fX0_goneSet_4]; simp)
    | succ n ih =>
      intro v1 v2 H locs ls hf hP hD hS hl
      rw [fX0_goneSet_4] at hf
      refine lv_iload_n hx hb dX0_goneSet_4 rfl (lv_at hl 2 rfl) ?_
      refine lv_bipush (v := 10) hx hb dX0_goneSet_5 (by decide) ?_
      refine lv_icmp_ge (tgt := 31) hx hb dX0_goneSet_7 (by decide) (fun c_1 => ?_) (fun c_1 => ?_)
      · have hf := br_pos c_1 hf
        refine lv_iload_n hx hb dX0_goneSet_31 rfl (lv_at hl 1 rfl) ?_
        cases hf
        exact rt_i hQ hx hb hr hlocks hP hD hS dX0_goneSet_32
      · have hf := br_neg c_1 hf
        refine lv_aload_n hx hb dX0_goneSet_10 rfl (lv_at hl 0 rfl) ?_
        refine lv_iload_n hx hb dX0_goneSet_11 rfl (lv_at hl 2 rfl) ?_
        refine lv_iconst (v := 2) hx hb dX0_goneSet_12 (by decide) ?_
        obtain ⟨q, h_2, hf⟩ := bd_some hf
        obtain ⟨r_3, rfl⟩ : ∃ z, z = q := ⟨_, rfl⟩
        try dsimp only at hf
        refine cl_i (ws := [(h0, .inr (0, [.ref h1])), (h1, .inl (cI, 256, .inl C))]) (wc := [(h0, .inr (0, [.ref h1])), (h1, .inl (cI, 256, .inl C))]) (wr := []) (w1 := [(h0, .inr (0, [.ref h1])), (h1, .inl (cI, 256, .inl C))]) (ws' := [(h0, .inr (0, [.ref h1])), (h1, .inl (cI, 256, .inl C))]) hP hD hS hA [0, 1] [] [0, 1] rfl rfl (by decide) (by decide) rfl (by decide) (va_runV (As := [.int v2, .int 2]) (rest := []) ⟨hx, hb, hml, hown, hts⟩ (kX0_isWhere l D cI cB cL h0 h1 _ C v2 2 r_3 h_2) (cwV 2 hts gX0_goneSet_X0_isWhere rfl rfl rfl (by decide +kernel) ⟨Nat.le_of_ble_eq_true rfl, Nat.le_of_ble_eq_true rfl⟩) (pre_V (ci := 0) (q0 := 0) (T := TX0) (N := 1) hK hE hP hD hS hA [0, 1] rfl (by decide) rfl rfl) rfl rfl hl.1 rfl (lv_room (Nat.le_of_ble_eq_true rfl)) dX0_goneSet_13 ⟨Nat.le_of_ble_eq_true rfl, Nat.le_of_ble_eq_true rfl⟩) (fun H locs hP hD hS => ?_)
        refine lv_if_eq (tgt := 25) hx hb dX0_goneSet_16 (by decide) (fun c_4 => ?_) (fun c_4 => ?_)
        · have hf := br_pos c_4 hf
          exact g25  (fX0_goneSet_4 C n) ih v1 v2 _ _ _ hf hP hD hS (lv_sub hl [0, 1, 2] rfl)
        · have hf := br_neg c_4 hf
          refine lv_iload_n hx hb dX0_goneSet_19 rfl (lv_at hl 1 rfl) ?_
          refine lv_iconst (v := 1) hx hb dX0_goneSet_20 (by decide) ?_
          refine lv_iload_n hx hb dX0_goneSet_21 rfl (lv_at hl 2 rfl) ?_
          refine lv_ishl hx hb dX0_goneSet_22 ?_
          refine lv_ior hx hb dX0_goneSet_23 ?_
          refine lv_istore_n (lv' := [(1, .int (v1 ||| (1 <<< (v2 &&& 31)))), (0, .ref h0), (2, .int v2)]) hx hb dX0_goneSet_24 rfl hl (by decide) rfl (fun ls hl => ?_)
          exact g25  (fX0_goneSet_4 C n) ih (v1 ||| (1 <<< (v2 &&& 31))) v2 _ _ _ hf hP hD hS (lv_sub hl [1, 0, 2] rfl)
  unfold fX0_goneSet at hf
  refine lv_iconst (v := 0) hx hb dX0_goneSet_0 (by decide) ?_
  refine lv_istore_n (lv' := [(1, .int 0), (0, .ref h0)]) hx hb dX0_goneSet_1 rfl hl (by decide) rfl (fun ls hl => ?_)
  refine lv_iconst (v := 0) hx hb dX0_goneSet_2 (by decide) ?_
  refine lv_istore_n (lv' := [(2, .int 0), (1, .int 0), (0, .ref h0)]) hx hb dX0_goneSet_3 rfl hl (by decide) rfl (fun ls hl => ?_)
  exact g4  5000 0 0 _ _ _ hf hP hD hS (lv_sub hl [2, 1, 0] rfl)
