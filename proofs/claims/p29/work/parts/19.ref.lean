/-! the reference as pure functions: only so far as the proofs about the class go by way of it -/
noncomputable def fX4_in (p0 : Int64) (p1 : Int64) (p2 : Int64) : Option (Int32) := (if (lg_cmp p0 p1) < 0 then some 0 else (if 0 < (lg_cmp p0 p2) then some 0 else some 1))
noncomputable def fX4_copyState_3 (n0 : Nat) (n1 : Nat) (F : Nat → Int32) (p1 : Int32) (p3 : Int32) : Nat → Int32 → (Nat → Int32) → Option ((Nat → Int32))
  | 0, _, _ => none
  | n + 1, v4, E => (if 220 ≤ v4 then some E else gd (p1 + v4) n0 (gd (p3 + v4) n1 (fX4_copyState_3 n0 n1 F p1 p3 n (v4 + 1) (upd E ((p3 + v4).toNatClampNeg) (F (p1 + v4).toNatClampNeg)))))
noncomputable def fX4_copyState (n0 : Nat) (n1 : Nat) (F : Nat → Int32) (E : Nat → Int32) (p1 : Int32) (p3 : Int32) : Option ((Nat → Int32)) := fX4_copyState_3 n0 n1 F p1 p3 5000 0 E
noncomputable def fX4_clear_2 : Nat → Int32 → (Nat → Int32) → Option ((Nat → Int32))
  | 0, _, _ => none
  | n + 1, v1, S => (if 220 ≤ v1 then some S else gd v1 220 (fX4_clear_2 n (v1 + 1) (upd S (v1.toNatClampNeg) 0)))
noncomputable def fX4_clear (S : Nat → Int32) : Option ((Nat → Int32)) := fX4_clear_2 5000 0 S
noncomputable def fX4_of (S : Nat → Int32) (p1 : Int32) (p2 : Int32) : Option (Int32) := gd ((40 + (18 * p1)) + p2) 220 (some (S ((40 + (18 * p1)) + p2).toNatClampNeg))
noncomputable def fX4_lay (S : Nat → Int32) (p1 : Int32) (p2 : Int32) (p3 : Int32) : Option ((Nat → Int32)) := gd ((40 + (18 * p1)) + p2) 220 (some (upd S (((40 + (18 * p1)) + p2).toNatClampNeg) p3))
noncomputable def fX4_isRoom (p0 : Int32) : Option (Int32) := ((fX4_in (p0 : Int32).toInt64 0 35).bind fun r_2 => gz (isz r_2) (some r_2))
noncomputable def fX4_isOne (S : Nat → Int32) (p1 : Int32) : Option (Int32) := ((fX4_in (p1 : Int32).toInt64 0 (((S 0) - 1) : Int32).toInt64).bind fun r_2 => gz (isz r_2) (some r_2))
noncomputable def fX4_isLength (p0 : Int32) : Option (Int32) := ((fX4_in (p0 : Int32).toInt64 1 9).bind fun r_2 => gz (isz r_2) (some r_2))
noncomputable def fX4_isIn (S : Nat → Int32) (p1 : Int32) (p2 : Int32) : Option (Int32) := ((fX4_of S p1 0).bind fun r_2 => (if r_2 = p2 then some 1 else some 0))
noncomputable def fX4_count_26 (k4 : Int32 → Int32 → Option (Int32)) (v3 : Int32) (z0 : Int32) (z1 : Int32) : Option (Int32) := k4 (z1 + z0) (v3 + 1)
noncomputable def fX4_count_4 (S : Nat → Int32) (p1 : Int32) : Nat → Int32 → Int32 → Option (Int32)
  | 0, _, _ => none
  | n + 1, v2, v3 => (if (S 0) ≤ v3 then some v2 else ((fX4_isIn S v3 p1).bind fun r_3 => (if r_3 = 0 then fX4_count_26 (fX4_count_4 S p1 n) v3 0 v2 else fX4_count_26 (fX4_count_4 S p1 n) v3 1 v2)))
noncomputable def fX4_count (S : Nat → Int32) (p1 : Int32) : Option (Int32) := fX4_count_4 S p1 5000 0 0
noncomputable def fX4_shutOnes_4 (S : Nat → Int32) : Nat → Int32 → Int32 → Option (Int32)
  | 0, _, _ => none
  | n + 1, v1, v2 => (if 36 ≤ v2 then some v1 else gd (4 + v2) 220 (fX4_shutOnes_4 S n (v1 + (S (4 + v2).toNatClampNeg)) (v2 + 1)))
noncomputable def fX4_shutOnes (S : Nat → Int32) : Option (Int32) := fX4_shutOnes_4 S 5000 0 0
noncomputable def fX4_takenBy_11 (k2 : Int32 → Option (Int32)) (S : Nat → Int32) (p1 : Int32) : Nat → Int32 → Int32 → Option (Int32)
  | 0, _, _ => none
  | n + 1, v2, v3 => ((fX4_of S v2 1).bind fun r_2 => (if r_2 ≤ v3 then k2 (v2 + 1) else ((fX4_of S v2 (9 + v3)).bind fun r_5 => (if r_5 = p1 then some v2 else fX4_takenBy_11 k2 S p1 n v2 (v3 + 1)))))
noncomputable def fX4_takenBy_2 (S : Nat → Int32) (p1 : Int32) : Nat → Int32 → Option (Int32)
  | 0, _ => none
  | n + 1, v2 => (if (S 0) ≤ v2 then some (-1) else fX4_takenBy_11 (fX4_takenBy_2 S p1 n) S p1 5000 v2 0)
noncomputable def fX4_takenBy (S : Nat → Int32) (p1 : Int32) : Option (Int32) := fX4_takenBy_2 S p1 5000 0
noncomputable def fX4_isFree (S : Nat → Int32) (p1 : Int32) : Option (Int32) := gd (4 + p1) 220 ((if (S (4 + p1).toNatClampNeg) = 0 then ((fX4_takenBy S p1).bind fun r_4 => (if r_4 = (-1) then some 1 else some 0)) else some 0))
noncomputable def fX4_along_54 (z0 : Int32) (z1 : Int32) (z2 : Int32) : Option (Int32) := some (z2 + (z1 * z0))
noncomputable def fX4_along_44 (p2 : Int32) (z0 : Int32) (z1 : Int32) : Option (Int32) := (if p2 = 0 then fX4_along_54 6 z0 z1 else fX4_along_54 1 z0 z1)
noncomputable def fX4_along_25 (p0 : Int32) (p2 : Int32) (z0 : Int32) : Option (Int32) := (if z0 = 0 then some (-1) else (if z0 ≤ 0 then fX4_along_44 p2 (-1) p0 else fX4_along_44 p2 1 p0))
noncomputable def fX4_along (p0 : Int32) (p1 : Int32) (p2 : Int32) : Option (Int32) := (if p2 = 0 then fX4_along_25 p0 p2 ((p1 / 6) - (p0 / 6)) else fX4_along_25 p0 p2 ((p1 - p1 / 6 * 6) - (p0 - p0 / 6 * 6)))
noncomputable def fX4_nextRoom_100 (v4 : Int32) : Option (Int32) := some v4
noncomputable def fX4_nextRoom_95 (v3 : Int32) (v4 : Int32) : Option (Int32) := (if v3 = (-1) then fX4_nextRoom_100 v4 else some v3)
noncomputable def fX4_nextRoom_82 (v3 : Int32) (v4 : Int32) (z0 : Int32) : Option (Int32) := (if z0 = 0 then fX4_nextRoom_95 v3 v4 else (if v4 = (-1) then fX4_nextRoom_95 v3 v4 else fX4_nextRoom_100 v4))
noncomputable def fX4_nextRoom_77 (v3 : Int32) (v4 : Int32) : Option (Int32) := fX4_nextRoom_82 v3 v4 1
noncomputable def fX4_nextRoom_81 (v3 : Int32) (v4 : Int32) : Option (Int32) := fX4_nextRoom_82 v3 v4 0
noncomputable def fX4_nextRoom_62 (S : Nat → Int32) (v3 : Int32) (v4 : Int32) : Option (Int32) := (if v4 = (-1) then fX4_nextRoom_81 v3 v4 else ((fX4_isFree S v4).bind fun r_6 => (if r_6 = 0 then fX4_nextRoom_81 v3 v4 else fX4_nextRoom_77 v3 v4)))
noncomputable def fX4_nextRoom (S : Nat → Int32) (p1 : Int32) : Option (Int32) := ((fX4_of S p1 9).bind fun r_9 => ((fX4_of S p1 7).bind fun r_11 => ((fX4_along r_9 r_11 1).bind fun r_13 => ((fX4_of S p1 7).bind fun r_15 => ((fX4_along r_9 r_15 0).bind fun r_17 => (if (S 2) = 1 then fX4_nextRoom_77 r_13 r_17 else (if (S 2) = 2 then (if r_13 = (-1) then fX4_nextRoom_62 S r_13 r_17 else ((fX4_isFree S r_13).bind fun r_22 => (if r_22 = 0 then fX4_nextRoom_62 S r_13 r_17 else fX4_nextRoom_81 r_13 r_17))) else fX4_nextRoom_81 r_13 r_17)))))))
noncomputable def fX4_eats (S : Nat → Int32) (p1 : Int32) : Option (Int32) := ((fX4_isIn S p1 1).bind fun r_2 => (if r_2 = 0 then some 0 else ((fX4_of S p1 9).bind fun r_5 => ((fX4_of S p1 7).bind fun r_7 => (if r_5 = r_7 then some 1 else some 0)))))
noncomputable def fX4_wants (S : Nat → Int32) (p1 : Int32) : Option (Int32) := ((fX4_isIn S p1 0).bind fun r_2 => (if r_2 = 0 then ((fX4_isIn S p1 1).bind fun r_5 => (if r_5 = 0 then some (-1) else ((fX4_eats S p1).bind fun r_8 => (if r_8 = 0 then ((fX4_nextRoom S p1).bind fun r_11 => some r_11) else some (-1))))) else ((fX4_of S p1 6).bind fun r_13 => some r_13)))
noncomputable def fX4_blockedBy (S : Nat → Int32) (p1 : Int32) : Option (Int32) := ((fX4_wants S p1).bind fun r_2 => (if r_2 = (-1) then some (-1) else ((fX4_takenBy S r_2).bind fun r_5 => some r_5)))
noncomputable def fX4_waits (S : Nat → Int32) (p1 : Int32) : Option ((Nat → Int32)) := ((fX4_of S p1 4).bind fun r_2 => ((fX4_lay S p1 4 (r_2 + 1)).bind fun S_4 => some (upd S_4 3 ((S_4 3) + 1))))
noncomputable def fX4_goes_23 (p1 : Int32) (p2 : Int32) : Nat → Int32 → (Nat → Int32) → Option ((Nat → Int32))
  | 0, _, _ => none
  | n + 1, v3, S => (if v3 ≤ 0 then ((fX4_lay S p1 9 p2).bind fun S_3 => ((fX4_of S_3 p1 2).bind fun r_5 => (if r_5 ≤ 0 then some S_3 else ((fX4_of S_3 p1 2).bind fun r_8 => ((fX4_lay S_3 p1 2 (r_8 - 1)).bind fun S_10 => ((fX4_of S_10 p1 1).bind fun r_12 => ((fX4_lay S_10 p1 1 (r_12 + 1)).bind fun S_14 => some S_14))))))) else ((fX4_of S p1 ((9 + v3) - 1)).bind fun r_16 => ((fX4_lay S p1 (9 + v3) r_16).bind fun S_18 => fX4_goes_23 p1 p2 n (v3 + (-1)) S_18)))
noncomputable def fX4_goes_22 (p1 : Int32) (p2 : Int32) (z0 : Int32) (S : Nat → Int32) : Option ((Nat → Int32)) := fX4_goes_23 p1 p2 5000 z0 S
noncomputable def fX4_goes (S : Nat → Int32) (p1 : Int32) (p2 : Int32) : Option ((Nat → Int32)) := ((fX4_of S p1 1).bind fun r_20 => (if 9 ≤ r_20 then fX4_goes_22 p1 p2 8 S else ((fX4_of S p1 1).bind fun r_23 => fX4_goes_22 p1 p2 r_23 S)))
noncomputable def fX4_eatsOne_54 (p1 : Int32) (S : Nat → Int32) : Option ((Nat → Int32)) := ((fX4_of S p1 1).bind fun r_2 => (if r_2 = 0 then ((fX4_lay S p1 0 2).bind fun S_5 => ((fX4_lay S_5 p1 5 ((S_5 1) + 1)).bind fun S_7 => some S_7)) else some S))
noncomputable def fX4_eatsOne (S : Nat → Int32) (p1 : Int32) : Option ((Nat → Int32)) := ((fX4_of S p1 3).bind fun r_9 => ((fX4_lay S p1 3 (r_9 + 1)).bind fun S_11 => ((fX4_of S_11 p1 2).bind fun r_13 => (if r_13 ≤ 0 then ((fX4_of S_11 p1 1).bind fun r_16 => ((fX4_lay S_11 p1 1 (r_16 - 1)).bind fun S_18 => fX4_eatsOne_54 p1 S_18)) else ((fX4_of S_11 p1 2).bind fun r_20 => ((fX4_lay S_11 p1 2 (r_20 - 1)).bind fun S_22 => fX4_eatsOne_54 p1 S_22))))))
noncomputable def fX4_acts_51 (p1 : Int32) (v2 : Int32) (S : Nat → Int32) : Option ((Nat → Int32)) := (if v2 = (-1) then some S else ((fX4_waits S p1).bind fun S_3 => some S_3))
noncomputable def fX4_acts (S : Nat → Int32) (p1 : Int32) : Option ((Nat → Int32)) := ((fX4_wants S p1).bind fun r_5 => ((fX4_eats S p1).bind fun r_7 => (if r_7 = 0 then (if r_5 = (-1) then fX4_acts_51 p1 r_5 S else ((fX4_isFree S r_5).bind fun r_11 => (if r_11 = 0 then fX4_acts_51 p1 r_5 S else ((fX4_goes S p1 r_5).bind fun S_14 => ((fX4_lay S_14 p1 0 1).bind fun S_16 => some S_16))))) else ((fX4_eatsOne S p1).bind fun S_18 => some S_18))))
noncomputable def fX4_ticksOn_16 (k8 : Int32 → Int32 → (Nat → Int32) → Option (Int32 × (Nat → Int32))) : Nat → Int32 → Int32 → Int32 → (Nat → Int32) → Option (Int32 × (Nat → Int32))
  | 0, _, _, _, _ => none
  | n + 1, v2, v3, v4, S => (if (S 0) ≤ v4 then k8 v2 (v3 + 1) (upd S 1 ((S 1) + 1)) else ((fX4_acts S v4).bind fun S_3 => fX4_ticksOn_16 k8 n v2 v3 (v4 + 1) S_3))
noncomputable def fX4_ticksOn_8 (p1 : Int32) : Nat → Int32 → Int32 → (Nat → Int32) → Option (Int32 × (Nat → Int32))
  | 0, _, _, _ => none
  | n + 1, v2, v3, S => (if p1 ≤ v3 then ((fX4_count S 2).bind fun r_6 => some ((r_6 - v2), S)) else fX4_ticksOn_16 (fX4_ticksOn_8 p1 n) 5000 v2 v3 0 S)
noncomputable def fX4_ticksOn (S : Nat → Int32) (p1 : Int32) : Option (Int32 × (Nat → Int32)) := ((fX4_count S 2).bind fun r_8 => fX4_ticksOn_8 p1 5000 r_8 0 S)
noncomputable def fX4_hatchOn_8 (p1 : Int32) (p2 : Int32) (p3 : Int32) : Nat → Int32 → Int32 → (Nat → Int32) → Option (Int32 × (Nat → Int32))
  | 0, _, _, _ => none
  | n + 1, v4, v5, S => (if 18 ≤ v5 then ((fX4_lay S v4 2 p3).bind fun S_3 => ((fX4_lay S_3 v4 5 (-1)).bind fun S_5 => ((fX4_lay S_5 v4 6 p1).bind fun S_7 => ((fX4_lay S_7 v4 7 p2).bind fun S_9 => ((fX4_lay S_9 v4 8 p3).bind fun S_11 => some (v4, (upd S_11 0 ((S_11 0) + 1)))))))) else ((fX4_lay S v4 v5 0).bind fun S_13 => fX4_hatchOn_8 p1 p2 p3 n v4 (v5 + 1) S_13))
noncomputable def fX4_hatchOn (S : Nat → Int32) (p1 : Int32) (p2 : Int32) (p3 : Int32) : Option (Int32 × (Nat → Int32)) := fX4_hatchOn_8 p1 p2 p3 5000 (S 0) 0 S
noncomputable def fX4_canHatch (S : Nat → Int32) (p1 : Int32) (p2 : Int32) (p3 : Int32) : Option (Int32) := ((fX4_isRoom p1).bind fun r_2 => (if r_2 = 0 then some 0 else ((fX4_isRoom p2).bind fun r_5 => (if r_5 = 0 then some 0 else ((fX4_isLength p3).bind fun r_8 => (if r_8 = 0 then some 0 else (if 10 ≤ (S 0) then some 0 else some 1)))))))
noncomputable def fX4_ruleOn (S : Nat → Int32) (p1 : Int32) : Option (Int32 × (Nat → Int32)) := some ((S 2), (upd S 2 p1))
noncomputable def fX4_canShut_20 : Option (Int32) := some 1
noncomputable def fX4_canShut (S : Nat → Int32) (p1 : Int32) (p2 : Int32) : Option (Int32) := ((fX4_isRoom p1).bind fun r_2 => (if r_2 = 0 then some 0 else (if p2 = 0 then fX4_canShut_20 else ((fX4_takenBy S p1).bind fun r_6 => (if r_6 = (-1) then fX4_canShut_20 else some 0)))))
noncomputable def fX4_shutOn_13 (z0 : Int32) (z1 : Int32) (S : Nat → Int32) : Option (Int32 × (Nat → Int32)) := gd z1 220 (((fX4_shutOnes (upd S (z1.toNatClampNeg) z0)).bind fun r_3 => some (r_3, (upd S (z1.toNatClampNeg) z0))))
noncomputable def fX4_shutOn (S : Nat → Int32) (p1 : Int32) (p2 : Int32) : Option (Int32 × (Nat → Int32)) := (if p2 = 0 then fX4_shutOn_13 0 (4 + p1) S else fX4_shutOn_13 1 (4 + p1) S)
noncomputable def fX4_canPull (S : Nat → Int32) (p1 : Int32) : Option (Int32) := ((fX4_isOne S p1).bind fun r_2 => (if r_2 = 0 then some 0 else ((fX4_of S p1 0).bind fun r_5 => (if 2 ≤ r_5 then some 0 else some 1))))
noncomputable def fX4_pullOn (S : Nat → Int32) (p1 : Int32) : Option (Int32 × (Nat → Int32)) := ((fX4_of S p1 1).bind fun r_2 => ((fX4_lay S p1 0 3).bind fun S_4 => ((fX4_lay S_4 p1 1 0).bind fun S_6 => ((fX4_lay S_6 p1 2 0).bind fun S_8 => some (r_2, S_8)))))
noncomputable def fX4_ringOf_36 (p1 : Int32) (v2 : Int32) (v3 : Int32) : Option (Int32) := (if v2 = p1 then some v3 else some (-1))
noncomputable def fX4_ringOf_8 (S : Nat → Int32) (p1 : Int32) : Nat → Int32 → Int32 → Option (Int32)
  | 0, _, _ => none
  | n + 1, v2, v3 => (if v2 = (-1) then fX4_ringOf_36 p1 v2 v3 else (if v2 = p1 then fX4_ringOf_36 p1 v2 v3 else (if 10 < v3 then fX4_ringOf_36 p1 v2 v3 else ((fX4_blockedBy S v2).bind fun r_6 => fX4_ringOf_8 S p1 n r_6 (v3 + 1)))))
noncomputable def fX4_ringOf (S : Nat → Int32) (p1 : Int32) : Option (Int32) := ((fX4_blockedBy S p1).bind fun r_8 => fX4_ringOf_8 S p1 5000 r_8 1)
noncomputable def fX4_isThrough (S : Nat → Int32) : Option (Int32) := ((fX4_count S 0).bind fun r_2 => ((fX4_count S 1).bind fun r_4 => (if (r_2 + r_4) = 0 then some 1 else some 0)))
noncomputable def fX4_until_63 (v2 : Int32) (v3 : Int32) (S : Nat → Int32) : Option (Int32 × (Nat → Int32)) := (if v3 = 0 then some ((-1), S) else some (v2, S))
noncomputable def fX4_until_59 (k21 : Int32 → Int32 → (Nat → Int32) → Option (Int32 × (Nat → Int32))) (v2 : Int32) (z0 : Int32) (S : Nat → Int32) : Option (Int32 × (Nat → Int32)) := k21 v2 z0 S
noncomputable def fX4_until_21 (p1 : Int32) : Nat → Int32 → Int32 → (Nat → Int32) → Option (Int32 × (Nat → Int32))
  | 0, _, _, _ => none
  | n + 1, v2, v3, S => (if 200 ≤ v2 then fX4_until_63 v2 v3 S else (if v3 = 0 then ((fX4_ticksOn S 1).bind fun (r_5, S_6) => (if p1 = (-1) then ((fX4_isThrough S_6).bind fun r_11 => fX4_until_59 (fX4_until_21 p1 n) (v2 + 1) r_11 S_6) else ((fX4_isIn S_6 p1 2).bind fun r_9 => fX4_until_59 (fX4_until_21 p1 n) (v2 + 1) r_9 S_6))) else fX4_until_63 v2 v3 S))
noncomputable def fX4_until_20 (p1 : Int32) (v2 : Int32) (z0 : Int32) (S : Nat → Int32) : Option (Int32 × (Nat → Int32)) := fX4_until_21 p1 5000 v2 z0 S
noncomputable def fX4_until (S : Nat → Int32) (p1 : Int32) : Option (Int32 × (Nat → Int32)) := (if p1 = (-1) then ((fX4_isThrough S).bind fun r_16 => fX4_until_20 p1 0 r_16 S) else ((fX4_isIn S p1 2).bind fun r_14 => fX4_until_20 p1 0 r_14 S))
noncomputable def fX4_turn_140 (z0 : Int32) (z1 : Int32) (S : Nat → Int32) : Option ((Nat → Int32)) := ((fX4_shutOn S z1 z0).bind fun (r_2, S_3) => some S_3)
noncomputable def fX4_turn_115 (v2 : Int32) (z0 : Int32) (z1 : Int32) (S : Nat → Int32) : Option ((Nat → Int32)) := ((fX4_canShut S z1 z0).bind fun r_5 => (if r_5 = 0 then some S else (if ((v2 / 64) - (v2 / 64) / 4 * 4) = 0 then fX4_turn_140 1 (v2 - v2 / 36 * 36) S else fX4_turn_140 0 (v2 - v2 / 36 * 36) S)))
noncomputable def fX4_turn (S : Nat → Int32) (p1 : Int32) : Option ((Nat → Int32)) := (if 3 ≤ (p1 - p1 / 8 * 8) then (if (p1 - p1 / 8 * 8) = 3 then (if (((p1 / 8) / 4) - ((p1 / 8) / 4) / 4 * 4) = 0 then ((fX4_ruleOn S ((p1 / 8) - (p1 / 8) / 3 * 3)).bind fun (r_27, S_28) => some S_28) else (if (((p1 / 8) / 64) - ((p1 / 8) / 64) / 4 * 4) = 0 then fX4_turn_115 (p1 / 8) 1 ((p1 / 8) - (p1 / 8) / 36 * 36) S else fX4_turn_115 (p1 / 8) 0 ((p1 / 8) - (p1 / 8) / 36 * 36) S)) else (if (p1 - p1 / 8 * 8) = 4 then (if (((p1 / 8) / 16) - ((p1 / 8) / 16) / 4 * 4) ≤ 0 then ((fX4_canPull S ((p1 / 8) - (p1 / 8) / 10 * 10)).bind fun r_16 => (if r_16 = 0 then some S else ((fX4_pullOn S ((p1 / 8) - (p1 / 8) / 10 * 10)).bind fun (r_19, S_20) => some S_20))) else ((fX4_ticksOn S 1).bind fun (r_22, S_23) => some S_23)) else ((fX4_ticksOn S (1 + ((p1 / 8) - (p1 / 8) / 12 * 12))).bind fun (r_12, S_13) => some S_13))) else ((fX4_canHatch S ((p1 / 8) - (p1 / 8) / 36 * 36) (((p1 / 8) / 36) - ((p1 / 8) / 36) / 36 * 36) (1 + (((p1 / 8) / 1296) - ((p1 / 8) / 1296) / 9 * 9))).bind fun r_30 => (if r_30 = 0 then some S else ((fX4_hatchOn S ((p1 / 8) - (p1 / 8) / 36 * 36) (((p1 / 8) / 36) - ((p1 / 8) / 36) / 36 * 36) (1 + (((p1 / 8) / 1296) - ((p1 / 8) / 1296) / 9 * 9))).bind fun (r_33, S_34) => some S_34))))
noncomputable def fX4_about_30 (N : Nat → Int32) (p0 : Int32) : Nat → Int32 → Int32 → Int32 → Option (Int32 × Int32)
  | 0, _, _, _ => none
  | n + 1, v2, v3, rf => (if (N 0) ≤ v3 then (if p0 = 0 then some ((N 0), rf) else (if p0 = 5 then some ((N 1), rf) else (if p0 = 6 then some (v2, rf) else (if p0 = 7 then ((fX4_shutOnes N).bind fun r_7 => some (r_7, rf)) else (if p0 = 8 then some ((N 2), rf) else (if p0 = 9 then some ((N 3), rf) else ((fX4_count N (p0 - 1)).bind fun r_11 => some (r_11, rf)))))))) else ((fX4_of N v3 1).bind fun r_27 => fX4_about_30 N p0 n (v2 + r_27) (v3 + 1) rf))
noncomputable def fX4_simulate_125 (z0 : Int32) (z1 : Int32) (rf : Int32) (T : Nat → Int32) : Option (Int32 × Int32 × (Nat → Int32)) := some ((z1 + z0), rf, T)
noncomputable def fX4_simulate_45 (N : Nat → Int32) (p1 : Int32) : Nat → Int64 → Int32 → Int32 → (Nat → Int32) → Option (Int32 × Int32 × (Nat → Int32))
  | 0, _, _, _, _ => none
  | n + 1, v4, v6, rf, T => (if p1 ≤ v6 then ((fX4_count T 2).bind fun r_3 => (if ((T 3) - (N 3)) ≤ 999 then fX4_simulate_125 ((T 3) - (N 3)) (1000 * r_3) rf T else fX4_simulate_125 999 (1000 * r_3) rf T)) else ((fX4_turn T ((((v4 * 6364136223846793005) + 1442695040888963407).toUInt64 >>> ((33 : Int32).toInt64.toUInt64 &&& Int64.toUInt64 63)).toInt64 : Int64).toInt32).bind fun T_6 => fX4_simulate_45 N p1 n ((v4 * 6364136223846793005) + 1442695040888963407) (v6 + 1) rf T_6))
