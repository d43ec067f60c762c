-- X4_in
noncomputable def fX4_in (p0 : Int64) (p1 : Int64) (p2 : Int64) : Option (Int32) := (if (lg_cmp p0 p1) < 0 then some 0 else (if 0 < (lg_cmp p0 p2) then some 0 else some 1))
-- X4_copyState
noncomputable def fX4_copyState_3 (n0 : Nat) (n1 : Nat) (F : Nat → Int32) (p1 : Int32) (p3 : Int32) : Nat → Int32 → (Nat → Int32) → Option ((Nat → Int32))
  | 0, _, _ => none
  | n + 1, v4, E => (if 220 ≤ v4 then some E else gd (p1 + v4) n0 (gd (p3 + v4) n1 (fX4_copyState_3 n0 n1 F p1 p3 n (v4 + 1) (upd E ((p3 + v4).toNatClampNeg) (F (p1 + v4).toNatClampNeg)))))
noncomputable def fX4_copyState (n0 : Nat) (n1 : Nat) (F : Nat → Int32) (E : Nat → Int32) (p1 : Int32) (p3 : Int32) : Option ((Nat → Int32)) := fX4_copyState_3 n0 n1 F p1 p3 5000 0 E
-- X4_clear
noncomputable def fX4_clear_2 : Nat → Int32 → (Nat → Int32) → Option ((Nat → Int32))
  | 0, _, _ => none
  | n + 1, v1, S => (if 220 ≤ v1 then some S else gd v1 220 (fX4_clear_2 n (v1 + 1) (upd S (v1.toNatClampNeg) 0)))
noncomputable def fX4_clear (S : Nat → Int32) : Option ((Nat → Int32)) := fX4_clear_2 5000 0 S
-- X4_of
noncomputable def fX4_of (S : Nat → Int32) (p1 : Int32) (p2 : Int32) : Option (Int32) := gd ((40 + (18 * p1)) + p2) 220 (some (S ((40 + (18 * p1)) + p2).toNatClampNeg))
-- X4_lay
noncomputable def fX4_lay (S : Nat → Int32) (p1 : Int32) (p2 : Int32) (p3 : Int32) : Option ((Nat → Int32)) := gd ((40 + (18 * p1)) + p2) 220 (some (upd S (((40 + (18 * p1)) + p2).toNatClampNeg) p3))
-- X4_isRoom
noncomputable def fX4_isRoom (p0 : Int32) : Option (Int32) := ((fX4_in (p0 : Int32).toInt64 0 35).bind fun r_2 => gz (isz r_2) (some r_2))
-- X4_isOne
noncomputable def fX4_isOne (S : Nat → Int32) (p1 : Int32) : Option (Int32) := ((fX4_in (p1 : Int32).toInt64 0 (((S 0) - 1) : Int32).toInt64).bind fun r_2 => gz (isz r_2) (some r_2))
-- X4_isLength
noncomputable def fX4_isLength (p0 : Int32) : Option (Int32) := ((fX4_in (p0 : Int32).toInt64 1 9).bind fun r_2 => gz (isz r_2) (some r_2))
-- X4_isIn
noncomputable def fX4_isIn (S : Nat → Int32) (p1 : Int32) (p2 : Int32) : Option (Int32) := ((fX4_of S p1 0).bind fun r_2 => (if r_2 = p2 then some 1 else some 0))
-- X4_count
noncomputable def fX4_count_26 (k4 : Int32 → Int32 → Option (Int32)) (v3 : Int32) (z0 : Int32) (z1 : Int32) : Option (Int32) := k4 (z1 + z0) (v3 + 1)
noncomputable def fX4_count_4 (S : Nat → Int32) (p1 : Int32) : Nat → Int32 → Int32 → Option (Int32)
  | 0, _, _ => none
  | n + 1, v2, v3 => (if (S 0) ≤ v3 then some v2 else ((fX4_isIn S v3 p1).bind fun r_3 => (if r_3 = 0 then fX4_count_26 (fX4_count_4 S p1 n) v3 0 v2 else fX4_count_26 (fX4_count_4 S p1 n) v3 1 v2)))
noncomputable def fX4_count (S : Nat → Int32) (p1 : Int32) : Option (Int32) := fX4_count_4 S p1 5000 0 0
-- X4_shutOnes
noncomputable def fX4_shutOnes_4 (S : Nat → Int32) : Nat → Int32 → Int32 → Option (Int32)
  | 0, _, _ => none
  | n + 1, v1, v2 => (if 36 ≤ v2 then some v1 else gd (4 + v2) 220 (fX4_shutOnes_4 S n (v1 + (S (4 + v2).toNatClampNeg)) (v2 + 1)))
noncomputable def fX4_shutOnes (S : Nat → Int32) : Option (Int32) := fX4_shutOnes_4 S 5000 0 0
-- X4_takenBy
noncomputable def fX4_takenBy_11 (k2 : Int32 → Option (Int32)) (S : Nat → Int32) (p1 : Int32) : Nat → Int32 → Int32 → Option (Int32)
  | 0, _, _ => none
  | n + 1, v2, v3 => ((fX4_of S v2 1).bind fun r_2 => (if r_2 ≤ v3 then k2 (v2 + 1) else ((fX4_of S v2 (9 + v3)).bind fun r_5 => (if r_5 = p1 then some v2 else fX4_takenBy_11 k2 S p1 n v2 (v3 + 1)))))
noncomputable def fX4_takenBy_2 (S : Nat → Int32) (p1 : Int32) : Nat → Int32 → Option (Int32)
  | 0, _ => none
  | n + 1, v2 => (if (S 0) ≤ v2 then some (-1) else fX4_takenBy_11 (fX4_takenBy_2 S p1 n) S p1 5000 v2 0)
noncomputable def fX4_takenBy (S : Nat → Int32) (p1 : Int32) : Option (Int32) := fX4_takenBy_2 S p1 5000 0
-- X4_isFree
noncomputable def fX4_isFree (S : Nat → Int32) (p1 : Int32) : Option (Int32) := gd (4 + p1) 220 ((if (S (4 + p1).toNatClampNeg) = 0 then ((fX4_takenBy S p1).bind fun r_4 => (if r_4 = (-1) then some 1 else some 0)) else some 0))
-- X4_along
noncomputable def fX4_along_54 (z0 : Int32) (z1 : Int32) (z2 : Int32) : Option (Int32) := some (z2 + (z1 * z0))
noncomputable def fX4_along_44 (p2 : Int32) (z0 : Int32) (z1 : Int32) : Option (Int32) := (if p2 = 0 then fX4_along_54 6 z0 z1 else fX4_along_54 1 z0 z1)
noncomputable def fX4_along_25 (p0 : Int32) (p2 : Int32) (z0 : Int32) : Option (Int32) := (if z0 = 0 then some (-1) else (if z0 ≤ 0 then fX4_along_44 p2 (-1) p0 else fX4_along_44 p2 1 p0))
noncomputable def fX4_along (p0 : Int32) (p1 : Int32) (p2 : Int32) : Option (Int32) := (if p2 = 0 then fX4_along_25 p0 p2 ((p1 / 6) - (p0 / 6)) else fX4_along_25 p0 p2 ((p1 - p1 / 6 * 6) - (p0 - p0 / 6 * 6)))
-- X4_nextRoom
noncomputable def fX4_nextRoom_100 (v4 : Int32) : Option (Int32) := some v4
noncomputable def fX4_nextRoom_95 (v3 : Int32) (v4 : Int32) : Option (Int32) := (if v3 = (-1) then fX4_nextRoom_100 v4 else some v3)
noncomputable def fX4_nextRoom_82 (v3 : Int32) (v4 : Int32) (z0 : Int32) : Option (Int32) := (if z0 = 0 then fX4_nextRoom_95 v3 v4 else (if v4 = (-1) then fX4_nextRoom_95 v3 v4 else fX4_nextRoom_100 v4))
noncomputable def fX4_nextRoom_77 (v3 : Int32) (v4 : Int32) : Option (Int32) := fX4_nextRoom_82 v3 v4 1
noncomputable def fX4_nextRoom_81 (v3 : Int32) (v4 : Int32) : Option (Int32) := fX4_nextRoom_82 v3 v4 0
noncomputable def fX4_nextRoom_62 (S : Nat → Int32) (v3 : Int32) (v4 : Int32) : Option (Int32) := (if v4 = (-1) then fX4_nextRoom_81 v3 v4 else ((fX4_isFree S v4).bind fun r_6 => (if r_6 = 0 then fX4_nextRoom_81 v3 v4 else fX4_nextRoom_77 v3 v4)))
noncomputable def fX4_nextRoom (S : Nat → Int32) (p1 : Int32) : Option (Int32) := ((fX4_of S p1 9).bind fun r_9 => ((fX4_of S p1 7).bind fun r_11 => ((fX4_along r_9 r_11 1).bind fun r_13 => ((fX4_of S p1 7).bind fun r_15 => ((fX4_along r_9 r_15 0).bind fun r_17 => (if (S 2) = 1 then fX4_nextRoom_77 r_13 r_17 else (if (S 2) = 2 then (if r_13 = (-1) then fX4_nextRoom_62 S r_13 r_17 else ((fX4_isFree S r_13).bind fun r_22 => (if r_22 = 0 then fX4_nextRoom_62 S r_13 r_17 else fX4_nextRoom_81 r_13 r_17))) else fX4_nextRoom_81 r_13 r_17)))))))
-- X4_eats
noncomputable def fX4_eats (S : Nat → Int32) (p1 : Int32) : Option (Int32) := ((fX4_isIn S p1 1).bind fun r_2 => (if r_2 = 0 then some 0 else ((fX4_of S p1 9).bind fun r_5 => ((fX4_of S p1 7).bind fun r_7 => (if r_5 = r_7 then some 1 else some 0)))))
-- X4_wants
noncomputable def fX4_wants (S : Nat → Int32) (p1 : Int32) : Option (Int32) := ((fX4_isIn S p1 0).bind fun r_2 => (if r_2 = 0 then ((fX4_isIn S p1 1).bind fun r_5 => (if r_5 = 0 then some (-1) else ((fX4_eats S p1).bind fun r_8 => (if r_8 = 0 then ((fX4_nextRoom S p1).bind fun r_11 => some r_11) else some (-1))))) else ((fX4_of S p1 6).bind fun r_13 => some r_13)))
-- X4_blockedBy
noncomputable def fX4_blockedBy (S : Nat → Int32) (p1 : Int32) : Option (Int32) := ((fX4_wants S p1).bind fun r_2 => (if r_2 = (-1) then some (-1) else ((fX4_takenBy S r_2).bind fun r_5 => some r_5)))
-- X4_waits
noncomputable def fX4_waits (S : Nat → Int32) (p1 : Int32) : Option ((Nat → Int32)) := ((fX4_of S p1 4).bind fun r_2 => ((fX4_lay S p1 4 (r_2 + 1)).bind fun S_4 => some (upd S_4 3 ((S_4 3) + 1))))
-- X4_goes
noncomputable def fX4_goes_23 (p1 : Int32) (p2 : Int32) : Nat → Int32 → (Nat → Int32) → Option ((Nat → Int32))
  | 0, _, _ => none
  | n + 1, v3, S => (if v3 ≤ 0 then ((fX4_lay S p1 9 p2).bind fun S_3 => ((fX4_of S_3 p1 2).bind fun r_5 => (if r_5 ≤ 0 then some S_3 else ((fX4_of S_3 p1 2).bind fun r_8 => ((fX4_lay S_3 p1 2 (r_8 - 1)).bind fun S_10 => ((fX4_of S_10 p1 1).bind fun r_12 => ((fX4_lay S_10 p1 1 (r_12 + 1)).bind fun S_14 => some S_14))))))) else ((fX4_of S p1 ((9 + v3) - 1)).bind fun r_16 => ((fX4_lay S p1 (9 + v3) r_16).bind fun S_18 => fX4_goes_23 p1 p2 n (v3 + (-1)) S_18)))
noncomputable def fX4_goes_22 (p1 : Int32) (p2 : Int32) (z0 : Int32) (S : Nat → Int32) : Option ((Nat → Int32)) := fX4_goes_23 p1 p2 5000 z0 S
noncomputable def fX4_goes (S : Nat → Int32) (p1 : Int32) (p2 : Int32) : Option ((Nat → Int32)) := ((fX4_of S p1 1).bind fun r_20 => (if 9 ≤ r_20 then fX4_goes_22 p1 p2 8 S else ((fX4_of S p1 1).bind fun r_23 => fX4_goes_22 p1 p2 r_23 S)))
-- X4_eatsOne
noncomputable def fX4_eatsOne_54 (p1 : Int32) (S : Nat → Int32) : Option ((Nat → Int32)) := ((fX4_of S p1 1).bind fun r_2 => (if r_2 = 0 then ((fX4_lay S p1 0 2).bind fun S_5 => ((fX4_lay S_5 p1 5 ((S_5 1) + 1)).bind fun S_7 => some S_7)) else some S))
noncomputable def fX4_eatsOne (S : Nat → Int32) (p1 : Int32) : Option ((Nat → Int32)) := ((fX4_of S p1 3).bind fun r_9 => ((fX4_lay S p1 3 (r_9 + 1)).bind fun S_11 => ((fX4_of S_11 p1 2).bind fun r_13 => (if r_13 ≤ 0 then ((fX4_of S_11 p1 1).bind fun r_16 => ((fX4_lay S_11 p1 1 (r_16 - 1)).bind fun S_18 => fX4_eatsOne_54 p1 S_18)) else ((fX4_of S_11 p1 2).bind fun r_20 => ((fX4_lay S_11 p1 2 (r_20 - 1)).bind fun S_22 => fX4_eatsOne_54 p1 S_22))))))
-- X4_acts
noncomputable def fX4_acts_51 (p1 : Int32) (v2 : Int32) (S : Nat → Int32) : Option ((Nat → Int32)) := (if v2 = (-1) then some S else ((fX4_waits S p1).bind fun S_3 => some S_3))
noncomputable def fX4_acts (S : Nat → Int32) (p1 : Int32) : Option ((Nat → Int32)) := ((fX4_wants S p1).bind fun r_5 => ((fX4_eats S p1).bind fun r_7 => (if r_7 = 0 then (if r_5 = (-1) then fX4_acts_51 p1 r_5 S else ((fX4_isFree S r_5).bind fun r_11 => (if r_11 = 0 then fX4_acts_51 p1 r_5 S else ((fX4_goes S p1 r_5).bind fun S_14 => ((fX4_lay S_14 p1 0 1).bind fun S_16 => some S_16))))) else ((fX4_eatsOne S p1).bind fun S_18 => some S_18))))
-- X4_ticksOn
noncomputable def fX4_ticksOn_16 (k8 : Int32 → Int32 → (Nat → Int32) → Option (Int32 × (Nat → Int32))) : Nat → Int32 → Int32 → Int32 → (Nat → Int32) → Option (Int32 × (Nat → Int32))
  | 0, _, _, _, _ => none
  | n + 1, v2, v3, v4, S => (if (S 0) ≤ v4 then k8 v2 (v3 + 1) (upd S 1 ((S 1) + 1)) else ((fX4_acts S v4).bind fun S_3 => fX4_ticksOn_16 k8 n v2 v3 (v4 + 1) S_3))
noncomputable def fX4_ticksOn_8 (p1 : Int32) : Nat → Int32 → Int32 → (Nat → Int32) → Option (Int32 × (Nat → Int32))
  | 0, _, _, _ => none
  | n + 1, v2, v3, S => (if p1 ≤ v3 then ((fX4_count S 2).bind fun r_6 => some ((r_6 - v2), S)) else fX4_ticksOn_16 (fX4_ticksOn_8 p1 n) 5000 v2 v3 0 S)
noncomputable def fX4_ticksOn (S : Nat → Int32) (p1 : Int32) : Option (Int32 × (Nat → Int32)) := ((fX4_count S 2).bind fun r_8 => fX4_ticksOn_8 p1 5000 r_8 0 S)
-- X4_hatchOn
noncomputable def fX4_hatchOn_8 (p1 : Int32) (p2 : Int32) (p3 : Int32) : Nat → Int32 → Int32 → (Nat → Int32) → Option (Int32 × (Nat → Int32))
  | 0, _, _, _ => none
  | n + 1, v4, v5, S => (if 18 ≤ v5 then ((fX4_lay S v4 2 p3).bind fun S_3 => ((fX4_lay S_3 v4 5 (-1)).bind fun S_5 => ((fX4_lay S_5 v4 6 p1).bind fun S_7 => ((fX4_lay S_7 v4 7 p2).bind fun S_9 => ((fX4_lay S_9 v4 8 p3).bind fun S_11 => some (v4, (upd S_11 0 ((S_11 0) + 1)))))))) else ((fX4_lay S v4 v5 0).bind fun S_13 => fX4_hatchOn_8 p1 p2 p3 n v4 (v5 + 1) S_13))
noncomputable def fX4_hatchOn (S : Nat → Int32) (p1 : Int32) (p2 : Int32) (p3 : Int32) : Option (Int32 × (Nat → Int32)) := fX4_hatchOn_8 p1 p2 p3 5000 (S 0) 0 S
-- X4_canHatch
noncomputable def fX4_canHatch (S : Nat → Int32) (p1 : Int32) (p2 : Int32) (p3 : Int32) : Option (Int32) := ((fX4_isRoom p1).bind fun r_2 => (if r_2 = 0 then some 0 else ((fX4_isRoom p2).bind fun r_5 => (if r_5 = 0 then some 0 else ((fX4_isLength p3).bind fun r_8 => (if r_8 = 0 then some 0 else (if 10 ≤ (S 0) then some 0 else some 1)))))))
-- X4_ruleOn
noncomputable def fX4_ruleOn (S : Nat → Int32) (p1 : Int32) : Option (Int32 × (Nat → Int32)) := some ((S 2), (upd S 2 p1))
-- X4_canShut
noncomputable def fX4_canShut_20 : Option (Int32) := some 1
noncomputable def fX4_canShut (S : Nat → Int32) (p1 : Int32) (p2 : Int32) : Option (Int32) := ((fX4_isRoom p1).bind fun r_2 => (if r_2 = 0 then some 0 else (if p2 = 0 then fX4_canShut_20 else ((fX4_takenBy S p1).bind fun r_6 => (if r_6 = (-1) then fX4_canShut_20 else some 0)))))
-- X4_shutOn
noncomputable def fX4_shutOn_13 (z0 : Int32) (z1 : Int32) (S : Nat → Int32) : Option (Int32 × (Nat → Int32)) := gd z1 220 (((fX4_shutOnes (upd S (z1.toNatClampNeg) z0)).bind fun r_3 => some (r_3, (upd S (z1.toNatClampNeg) z0))))
noncomputable def fX4_shutOn (S : Nat → Int32) (p1 : Int32) (p2 : Int32) : Option (Int32 × (Nat → Int32)) := (if p2 = 0 then fX4_shutOn_13 0 (4 + p1) S else fX4_shutOn_13 1 (4 + p1) S)
-- X4_canPull
noncomputable def fX4_canPull (S : Nat → Int32) (p1 : Int32) : Option (Int32) := ((fX4_isOne S p1).bind fun r_2 => (if r_2 = 0 then some 0 else ((fX4_of S p1 0).bind fun r_5 => (if 2 ≤ r_5 then some 0 else some 1))))
-- X4_pullOn
noncomputable def fX4_pullOn (S : Nat → Int32) (p1 : Int32) : Option (Int32 × (Nat → Int32)) := ((fX4_of S p1 1).bind fun r_2 => ((fX4_lay S p1 0 3).bind fun S_4 => ((fX4_lay S_4 p1 1 0).bind fun S_6 => ((fX4_lay S_6 p1 2 0).bind fun S_8 => some (r_2, S_8)))))
-- X4_ringOf
noncomputable def fX4_ringOf_36 (p1 : Int32) (v2 : Int32) (v3 : Int32) : Option (Int32) := (if v2 = p1 then some v3 else some (-1))
noncomputable def fX4_ringOf_8 (S : Nat → Int32) (p1 : Int32) : Nat → Int32 → Int32 → Option (Int32)
  | 0, _, _ => none
  | n + 1, v2, v3 => (if v2 = (-1) then fX4_ringOf_36 p1 v2 v3 else (if v2 = p1 then fX4_ringOf_36 p1 v2 v3 else (if 10 < v3 then fX4_ringOf_36 p1 v2 v3 else ((fX4_blockedBy S v2).bind fun r_6 => fX4_ringOf_8 S p1 n r_6 (v3 + 1)))))
noncomputable def fX4_ringOf (S : Nat → Int32) (p1 : Int32) : Option (Int32) := ((fX4_blockedBy S p1).bind fun r_8 => fX4_ringOf_8 S p1 5000 r_8 1)
-- X4_ringed
noncomputable def fX4_ringed_2 (S : Nat → Int32) : Nat → Int32 → Option (Int32)
  | 0, _ => none
  | n + 1, v1 => (if (S 0) ≤ v1 then some (-1) else ((fX4_ringOf S v1).bind fun r_3 => (if r_3 = (-1) then fX4_ringed_2 S n (v1 + 1) else some v1)))
noncomputable def fX4_ringed (S : Nat → Int32) : Option (Int32) := fX4_ringed_2 S 5000 0
-- X4_isThrough
noncomputable def fX4_isThrough (S : Nat → Int32) : Option (Int32) := ((fX4_count S 0).bind fun r_2 => ((fX4_count S 1).bind fun r_4 => (if (r_2 + r_4) = 0 then some 1 else some 0)))
-- X4_until
noncomputable def fX4_until_63 (v2 : Int32) (v3 : Int32) (S : Nat → Int32) : Option (Int32 × (Nat → Int32)) := (if v3 = 0 then some ((-1), S) else some (v2, S))
noncomputable def fX4_until_59 (k21 : Int32 → Int32 → (Nat → Int32) → Option (Int32 × (Nat → Int32))) (v2 : Int32) (z0 : Int32) (S : Nat → Int32) : Option (Int32 × (Nat → Int32)) := k21 v2 z0 S
noncomputable def fX4_until_21 (p1 : Int32) : Nat → Int32 → Int32 → (Nat → Int32) → Option (Int32 × (Nat → Int32))
  | 0, _, _, _ => none
  | n + 1, v2, v3, S => (if 200 ≤ v2 then fX4_until_63 v2 v3 S else (if v3 = 0 then ((fX4_ticksOn S 1).bind fun (r_5, S_6) => (if p1 = (-1) then ((fX4_isThrough S_6).bind fun r_11 => fX4_until_59 (fX4_until_21 p1 n) (v2 + 1) r_11 S_6) else ((fX4_isIn S_6 p1 2).bind fun r_9 => fX4_until_59 (fX4_until_21 p1 n) (v2 + 1) r_9 S_6))) else fX4_until_63 v2 v3 S))
noncomputable def fX4_until_20 (p1 : Int32) (v2 : Int32) (z0 : Int32) (S : Nat → Int32) : Option (Int32 × (Nat → Int32)) := fX4_until_21 p1 5000 v2 z0 S
noncomputable def fX4_until (S : Nat → Int32) (p1 : Int32) : Option (Int32 × (Nat → Int32)) := (if p1 = (-1) then ((fX4_isThrough S).bind fun r_16 => fX4_until_20 p1 0 r_16 S) else ((fX4_isIn S p1 2).bind fun r_14 => fX4_until_20 p1 0 r_14 S))
-- X4_turn
noncomputable def fX4_turn_140 (z0 : Int32) (z1 : Int32) (S : Nat → Int32) : Option ((Nat → Int32)) := ((fX4_shutOn S z1 z0).bind fun (r_2, S_3) => some S_3)
noncomputable def fX4_turn_115 (v2 : Int32) (z0 : Int32) (z1 : Int32) (S : Nat → Int32) : Option ((Nat → Int32)) := ((fX4_canShut S z1 z0).bind fun r_5 => (if r_5 = 0 then some S else (if ((v2 / 64) - (v2 / 64) / 4 * 4) = 0 then fX4_turn_140 1 (v2 - v2 / 36 * 36) S else fX4_turn_140 0 (v2 - v2 / 36 * 36) S)))
noncomputable def fX4_turn (S : Nat → Int32) (p1 : Int32) : Option ((Nat → Int32)) := (if 3 ≤ (p1 - p1 / 8 * 8) then (if (p1 - p1 / 8 * 8) = 3 then (if (((p1 / 8) / 4) - ((p1 / 8) / 4) / 4 * 4) = 0 then ((fX4_ruleOn S ((p1 / 8) - (p1 / 8) / 3 * 3)).bind fun (r_27, S_28) => some S_28) else (if (((p1 / 8) / 64) - ((p1 / 8) / 64) / 4 * 4) = 0 then fX4_turn_115 (p1 / 8) 1 ((p1 / 8) - (p1 / 8) / 36 * 36) S else fX4_turn_115 (p1 / 8) 0 ((p1 / 8) - (p1 / 8) / 36 * 36) S)) else (if (p1 - p1 / 8 * 8) = 4 then (if (((p1 / 8) / 16) - ((p1 / 8) / 16) / 4 * 4) ≤ 0 then ((fX4_canPull S ((p1 / 8) - (p1 / 8) / 10 * 10)).bind fun r_16 => (if r_16 = 0 then some S else ((fX4_pullOn S ((p1 / 8) - (p1 / 8) / 10 * 10)).bind fun (r_19, S_20) => some S_20))) else ((fX4_ticksOn S 1).bind fun (r_22, S_23) => some S_23)) else ((fX4_ticksOn S (1 + ((p1 / 8) - (p1 / 8) / 12 * 12))).bind fun (r_12, S_13) => some S_13))) else ((fX4_canHatch S ((p1 / 8) - (p1 / 8) / 36 * 36) (((p1 / 8) / 36) - ((p1 / 8) / 36) / 36 * 36) (1 + (((p1 / 8) / 1296) - ((p1 / 8) / 1296) / 9 * 9))).bind fun r_30 => (if r_30 = 0 then some S else ((fX4_hatchOn S ((p1 / 8) - (p1 / 8) / 36 * 36) (((p1 / 8) / 36) - ((p1 / 8) / 36) / 36 * 36) (1 + (((p1 / 8) / 1296) - ((p1 / 8) / 1296) / 9 * 9))).bind fun (r_33, S_34) => some S_34))))
abbrev rmX4_in : Room := ({ frames := 1, cells := 0, slots := 0, locals := 0 })
set_option maxHeartbeats 4000000 in
set_option maxRecDepth 100000 in
theorem kX4_in (l : Launch) (D : va_G) (cI cB cL : ClassId) (sz : Nat) (p0 : Int64) (p1 : Int64) (p2 : Int64) (w : Int32) (hf : fX4_in p0 p1 p2 = some w) : Met l yX4_in wsX4_in rmX4_in (mPc D (tyK cI cB cL) [.long p0, .long p1, .long p2] sz []) (mQi D w [] (va_A [] sz)) 0 0 (va_A [] sz) := by
  refine m_of (Qf := mQi D w []) (cc := cX4_in) (maxL := 6) (ret := (some .boolean)) (by decide) rfl (Nat.le_of_ble_eq_true rfl) ?_
  intro p e s m args below meth c A ls hsz hx hb hr hml hown hts hlocks hP hK hD hS hA hE hin hl Q hQ
  subst hsz
  have hl : lv_has ls 6 [(0, .long p0), (2, .long p1), (4, .long p2)] := hl
  have hown : s.vm.findClass RX4 = some m.cls := hown
  unfold fX4_in at hf
  refine lv_lload_n hx hb dX4_in_0 rfl (lv_at hl 0 rfl) ?_
  refine lv_lload_n hx hb dX4_in_1 rfl (lv_at hl 1 rfl) ?_
  refine W.lcmp hx hb dX4_in_2 ?_
  refine lv_if_lt (tgt := 17) hx hb dX4_in_3 (by decide) (fun c_1 => ?_) (fun c_1 => ?_)
  · have hf := br_pos c_1 hf
    refine lv_iconst (v := 0) hx hb dX4_in_17 (by decide) ?_
    cases hf
    exact rt_z hQ hx hb hr rfl hlocks hP hD hS dX4_in_18
  · have hf := br_neg c_1 hf
    refine lv_lload_n hx hb dX4_in_6 rfl (lv_at hl 0 rfl) ?_
    refine lv_lload hx hb dX4_in_7 (lv_at hl 2 rfl) ?_
    refine W.lcmp hx hb dX4_in_9 ?_
    refine lv_if_gt (tgt := 17) hx hb dX4_in_10 (by decide) (fun c_2 => ?_) (fun c_2 => ?_)
    · have hf := br_pos c_2 hf
      refine lv_iconst (v := 0) hx hb dX4_in_17 (by decide) ?_
      cases hf
      exact rt_z hQ hx hb hr rfl hlocks hP hD hS dX4_in_18
    · have hf := br_neg c_2 hf
      refine lv_iconst (v := 1) hx hb dX4_in_13 (by decide) ?_
      refine lv_goto (tgt := 18) hx hb dX4_in_14 (by decide) ?_
      cases hf
      exact rt_z hQ hx hb hr rfl hlocks hP hD hS dX4_in_18
abbrev rmX4_copyState : Room := ({ frames := 1, cells := 0, slots := 0, locals := 0 })
set_option maxHeartbeats 4000000 in
set_option maxRecDepth 100000 in
theorem kX4_copyState (l : Launch) (D : va_G) (cI cB cL : ClassId) (b0 : Nat) (b1 : Nat) (sz : Nat) (n0 : Nat) (n1 : Nat) (F : Nat → Int32) (E : Nat → Int32) (p1 : Int32) (p3 : Int32) (E' : Nat → Int32) (hf : fX4_copyState n0 n1 F E p1 p3 = some E') : Met l yX4_copyState wsX4_copyState rmX4_copyState (mPc D (tyK cI cB cL) [.ref b0, .int p1, .ref b1, .int p3] sz [(b0, .inl (cI, n0, .inl F)), (b1, .inl (cI, n1, .inl E))]) (mQv D [(b0, .inl (cI, n0, .inl F)), (b1, .inl (cI, n1, .inl E'))] (va_A [(b0, .inl (cI, n0, .inl F)), (b1, .inl (cI, n1, .inl E))] sz)) 0 0 (va_A [(b0, .inl (cI, n0, .inl F)), (b1, .inl (cI, n1, .inl E))] sz) := by
  refine m_of (Qf := mQv D [(b0, .inl (cI, n0, .inl F)), (b1, .inl (cI, n1, .inl E'))]) (cc := cX4_copyState) (maxL := 5) (ret := none) (by decide) rfl (Nat.le_of_ble_eq_true rfl) ?_
  intro p e s m args below meth c A ls hsz hx hb hr hml hown hts hlocks hP hK hD hS hA hE hin hl Q hQ
  subst hsz
  have hl : lv_has ls 5 [(0, .ref b0), (1, .int p1), (2, .ref b1), (3, .int p3)] := hl
  have hown : s.vm.findClass RX4 = some m.cls := hown
  have hl0 := hl
  have g3 : ∀ (n : Nat) (v4 : Int32) (E : Nat → Int32) (H : Heap) (locs : List Loc) (ls : Array Slot), fX4_copyState_3 n0 n1 F p1 p3 n v4 E = some E' → va_P D vwCl [(b0, .inl (cI, n0, .inl F)), (b1, .inl (cI, n1, .inl E))] H → va_D A [(b0, .inl (cI, n0, .inl F)), (b1, .inl (cI, n1, .inl E))] → va_S A s.heap H locs → lv_has ls 5 [(0, .ref b0), (1, .int p1), (2, .ref b1), (3, .int p3), (4, .int v4)] → W p l e rmX4_copyState s m args below meth c H locs 0 0 Q (F0 m 3 ls []) := by
    intro  n
    induction n with
    | zero =>
      intro v4 E H locs ls hf
      exact absurd hf (by rw [fX4_copyState_3]; simp)
    | succ n ih =>
      intro v4 E H locs ls hf hP hD hS hl
      rw [fX4_copyState_3] at hf
      refine lv_iload hx hb dX4_copyState_3 (lv_at hl 4 rfl) ?_
      refine lv_sipush (v := 220) hx hb dX4_copyState_5 (by decide) ?_
      refine lv_icmp_ge (tgt := 29) hx hb dX4_copyState_8 (by decide) (fun c_1 => ?_) (fun c_1 => ?_)
      · have hf := br_pos c_1 hf
        cases hf
        exact rt_v hQ hx hb hr hlocks hP hD hS dX4_copyState_29
      · have hf := br_neg c_1 hf
        refine lv_aload_n hx hb dX4_copyState_11 rfl (lv_at hl 2 rfl) ?_
        refine lv_iload_n hx hb dX4_copyState_12 rfl (lv_at hl 3 rfl) ?_
        refine lv_iload hx hb dX4_copyState_13 (lv_at hl 4 rfl) ?_
        refine lv_iadd hx hb dX4_copyState_15 ?_
        refine lv_aload_n hx hb dX4_copyState_16 rfl (lv_at hl 0 rfl) ?_
        refine lv_iload_n hx hb dX4_copyState_17 rfl (lv_at hl 1 rfl) ?_
        refine lv_iload hx hb dX4_copyState_18 (lv_at hl 4 rfl) ?_
        refine lv_iadd hx hb dX4_copyState_20 ?_
        obtain ⟨i_2, hf⟩ := gd_some hf
        refine x_iald hx hb hK hP 0 0 rfl rfl i_2 _ rfl dX4_copyState_21 ?_
        obtain ⟨i_3, hf⟩ := gd_some hf
        refine x_iast hx hb hK hP hD hS 1 0 rfl rfl i_3 _ rfl [(b0, .inl (cI, n0, .inl F)), (b1, .inl (cI, n1, .inl (upd E ((p3 + v4).toNatClampNeg) (F (p1 + v4).toNatClampNeg))))] rfl dX4_copyState_22 (fun H locs hP hD hS => ?_)
        refine lv_iinc (v := (v4 + 1)) (lv' := [(4, .int (v4 + 1)), (0, .ref b0), (1, .int p1), (2, .ref b1), (3, .int p3)]) hx hb dX4_copyState_23 hl (k := 4) rfl rfl (by decide) rfl (fun ls hl => ?_)
        refine lv_goto (tgt := 3) hx hb dX4_copyState_26 (by decide) ?_
        exact ih (v4 + 1) (upd E ((p3 + v4).toNatClampNeg) (F (p1 + v4).toNatClampNeg)) _ _ _ hf hP hD hS (lv_sub hl [1, 2, 3, 4, 0] rfl)
  unfold fX4_copyState at hf
  refine lv_iconst (v := 0) hx hb dX4_copyState_0 (by decide) ?_
  refine lv_istore (lv' := [(4, .int 0), (0, .ref b0), (1, .int p1), (2, .ref b1), (3, .int p3)]) hx hb dX4_copyState_1 hl (by decide) rfl (fun ls hl => ?_)
  exact g3 5000 0 E _ _ _ hf hP hD hS (lv_sub hl [1, 2, 3, 4, 0] rfl)
abbrev rmX4_clear : Room := ({ frames := 1, cells := 0, slots := 0, locals := 0 })
set_option maxHeartbeats 4000000 in
set_option maxRecDepth 100000 in
theorem kX4_clear (l : Launch) (D : va_G) (cI cB cL : ClassId) (b0 : Nat) (sz : Nat) (S : Nat → Int32) (S' : Nat → Int32) (hf : fX4_clear S = some S') : Met l yX4_clear wsX4_clear rmX4_clear (mPc D (tyK cI cB cL) [.ref b0] sz [(b0, .inl (cI, 220, .inl S))]) (mQv D [(b0, .inl (cI, 220, .inl S'))] (va_A [(b0, .inl (cI, 220, .inl S))] sz)) 0 0 (va_A [(b0, .inl (cI, 220, .inl S))] sz) := by
  refine m_of (Qf := mQv D [(b0, .inl (cI, 220, .inl S'))]) (cc := cX4_clear) (maxL := 2) (ret := none) (by decide) rfl (Nat.le_of_ble_eq_true rfl) ?_
  intro p e s m args below meth c A ls hsz hx hb hr hml hown hts hlocks hP hK hD hS hA hE hin hl Q hQ
  subst hsz
  have hl : lv_has ls 2 [(0, .ref b0)] := hl
  have hown : s.vm.findClass RX4 = some m.cls := hown
  have hl0 := hl
  have g2 : ∀ (n : Nat) (v1 : Int32) (S : Nat → Int32) (H : Heap) (locs : List Loc) (ls : Array Slot), fX4_clear_2 n v1 S = some S' → va_P D vwCl [(b0, .inl (cI, 220, .inl S))] H → va_D A [(b0, .inl (cI, 220, .inl S))] → va_S A s.heap H locs → lv_has ls 2 [(0, .ref b0), (1, .int v1)] → W p l e rmX4_clear s m args below meth c H locs 0 0 Q (F0 m 2 ls []) := by
    intro  n
    induction n with
    | zero =>
      intro v1 S H locs ls hf
      exact absurd hf (by rw [fX4_clear_2]; simp)
    | succ n ih =>
      intro v1 S H locs ls hf hP hD hS hl
      rw [fX4_clear_2] at hf
      refine lv_iload_n hx hb dX4_clear_2 rfl (lv_at hl 1 rfl) ?_
      refine lv_sipush (v := 220) hx hb dX4_clear_3 (by decide) ?_
      refine lv_icmp_ge (tgt := 19) hx hb dX4_clear_6 (by decide) (fun c_1 => ?_) (fun c_1 => ?_)
      · have hf := br_pos c_1 hf
        cases hf
        exact rt_v hQ hx hb hr hlocks hP hD hS dX4_clear_19
      · have hf := br_neg c_1 hf
        refine lv_aload_n hx hb dX4_clear_9 rfl (lv_at hl 0 rfl) ?_
        refine lv_iload_n hx hb dX4_clear_10 rfl (lv_at hl 1 rfl) ?_
        refine lv_iconst (v := 0) hx hb dX4_clear_11 (by decide) ?_
        obtain ⟨i_2, hf⟩ := gd_some hf
        refine x_iast hx hb hK hP hD hS 0 0 rfl rfl i_2 _ rfl [(b0, .inl (cI, 220, .inl (upd S (v1.toNatClampNeg) 0)))] rfl dX4_clear_12 (fun H locs hP hD hS => ?_)
        refine lv_iinc (v := (v1 + 1)) (lv' := [(1, .int (v1 + 1)), (0, .ref b0)]) hx hb dX4_clear_13 hl (k := 1) rfl rfl (by decide) rfl (fun ls hl => ?_)
        refine lv_goto (tgt := 2) hx hb dX4_clear_16 (by decide) ?_
        exact ih (v1 + 1) (upd S (v1.toNatClampNeg) 0) _ _ _ hf hP hD hS (lv_sub hl [1, 0] rfl)
  unfold fX4_clear at hf
  refine lv_iconst (v := 0) hx hb dX4_clear_0 (by decide) ?_
  refine lv_istore_n (lv' := [(1, .int 0), (0, .ref b0)]) hx hb dX4_clear_1 rfl hl (by decide) rfl (fun ls hl => ?_)
  exact g2 5000 0 S _ _ _ hf hP hD hS (lv_sub hl [1, 0] rfl)
abbrev rmX4_of : Room := ({ frames := 1, cells := 0, slots := 0, locals := 0 })
set_option maxHeartbeats 4000000 in
set_option maxRecDepth 100000 in
theorem kX4_of (l : Launch) (D : va_G) (cI cB cL : ClassId) (b0 : Nat) (sz : Nat) (S : Nat → Int32) (p1 : Int32) (p2 : Int32) (w : Int32) (hf : fX4_of S p1 p2 = some w) : Met l yX4_of wsX4_of rmX4_of (mPc D (tyK cI cB cL) [.ref b0, .int p1, .int p2] sz [(b0, .inl (cI, 220, .inl S))]) (mQi D w [(b0, .inl (cI, 220, .inl S))] (va_A [(b0, .inl (cI, 220, .inl S))] sz)) 0 0 (va_A [(b0, .inl (cI, 220, .inl S))] sz) := by
  refine m_of (Qf := mQi D w [(b0, .inl (cI, 220, .inl S))]) (cc := cX4_of) (maxL := 3) (ret := (some .int)) (by decide) rfl (Nat.le_of_ble_eq_true rfl) ?_
  intro p e s m args below meth c A ls hsz hx hb hr hml hown hts hlocks hP hK hD hS hA hE hin hl Q hQ
  subst hsz
  have hl : lv_has ls 3 [(0, .ref b0), (1, .int p1), (2, .int p2)] := hl
  have hown : s.vm.findClass RX4 = some m.cls := hown
  unfold fX4_of at hf
  refine lv_aload_n hx hb dX4_of_0 rfl (lv_at hl 0 rfl) ?_
  refine lv_bipush (v := 40) hx hb dX4_of_1 (by decide) ?_
  refine lv_bipush (v := 18) hx hb dX4_of_3 (by decide) ?_
  refine lv_iload_n hx hb dX4_of_5 rfl (lv_at hl 1 rfl) ?_
  refine lv_imul hx hb dX4_of_6 ?_
  refine lv_iadd hx hb dX4_of_7 ?_
  refine lv_iload_n hx hb dX4_of_8 rfl (lv_at hl 2 rfl) ?_
  refine lv_iadd hx hb dX4_of_9 ?_
  obtain ⟨i_1, hf⟩ := gd_some hf
  refine x_iald hx hb hK hP 0 0 rfl rfl i_1 _ rfl dX4_of_10 ?_
  cases hf
  exact rt_i hQ hx hb hr hlocks hP hD hS dX4_of_11
abbrev rmX4_lay : Room := ({ frames := 1, cells := 0, slots := 0, locals := 0 })
set_option maxHeartbeats 4000000 in
set_option maxRecDepth 100000 in
theorem kX4_lay (l : Launch) (D : va_G) (cI cB cL : ClassId) (b0 : Nat) (sz : Nat) (S : Nat → Int32) (p1 : Int32) (p2 : Int32) (p3 : Int32) (S' : Nat → Int32) (hf : fX4_lay S p1 p2 p3 = some S') : Met l yX4_lay wsX4_lay rmX4_lay (mPc D (tyK cI cB cL) [.ref b0, .int p1, .int p2, .int p3] sz [(b0, .inl (cI, 220, .inl S))]) (mQv D [(b0, .inl (cI, 220, .inl S'))] (va_A [(b0, .inl (cI, 220, .inl S))] sz)) 0 0 (va_A [(b0, .inl (cI, 220, .inl S))] sz) := by
  refine m_of (Qf := mQv D [(b0, .inl (cI, 220, .inl S'))]) (cc := cX4_lay) (maxL := 4) (ret := none) (by decide) rfl (Nat.le_of_ble_eq_true rfl) ?_
  intro p e s m args below meth c A ls hsz hx hb hr hml hown hts hlocks hP hK hD hS hA hE hin hl Q hQ
  subst hsz
  have hl : lv_has ls 4 [(0, .ref b0), (1, .int p1), (2, .int p2), (3, .int p3)] := hl
  have hown : s.vm.findClass RX4 = some m.cls := hown
  unfold fX4_lay at hf
  refine lv_aload_n hx hb dX4_lay_0 rfl (lv_at hl 0 rfl) ?_
  refine lv_bipush (v := 40) hx hb dX4_lay_1 (by decide) ?_
  refine lv_bipush (v := 18) hx hb dX4_lay_3 (by decide) ?_
  refine lv_iload_n hx hb dX4_lay_5 rfl (lv_at hl 1 rfl) ?_
  refine lv_imul hx hb dX4_lay_6 ?_
  refine lv_iadd hx hb dX4_lay_7 ?_
  refine lv_iload_n hx hb dX4_lay_8 rfl (lv_at hl 2 rfl) ?_
  refine lv_iadd hx hb dX4_lay_9 ?_
  refine lv_iload_n hx hb dX4_lay_10 rfl (lv_at hl 3 rfl) ?_
  obtain ⟨i_1, hf⟩ := gd_some hf
  refine x_iast hx hb hK hP hD hS 0 0 rfl rfl i_1 _ rfl [(b0, .inl (cI, 220, .inl (upd S (((40 + (18 * p1)) + p2).toNatClampNeg) p3)))] rfl dX4_lay_11 (fun H locs hP hD hS => ?_)
  cases hf
  exact rt_v hQ hx hb hr hlocks hP hD hS dX4_lay_12
abbrev rmX4_isRoom : Room := ({ frames := 2, cells := 0, slots := 0, locals := 25 })
set_option maxHeartbeats 4000000 in
set_option maxRecDepth 100000 in
theorem kX4_isRoom (l : Launch) (D : va_G) (cI cB cL : ClassId) (sz : Nat) (p0 : Int32) (w : Int32) (hf : fX4_isRoom p0 = some w) : Met l yX4_isRoom wsX4_isRoom rmX4_isRoom (mPc D (tyK cI cB cL) [.int p0] sz []) (mQi D w [] (va_A [] sz)) 0 0 (va_A [] sz) := by
  refine m_of (Qf := mQi D w []) (cc := cX4_isRoom) (maxL := 1) (ret := (some .boolean)) (by decide) rfl (Nat.le_of_ble_eq_true rfl) ?_
  intro p e s m args below meth c A ls hsz hx hb hr hml hown hts hlocks hP hK hD hS hA hE hin hl Q hQ
  subst hsz
  have hl : lv_has ls 1 [(0, .int p0)] := hl
  have hown : s.vm.findClass RX4 = some m.cls := hown
  unfold fX4_isRoom at hf
  refine lv_iload_n hx hb dX4_isRoom_0 rfl (lv_at hl 0 rfl) ?_
  refine lv_i2l (v := (p0 : Int32).toInt64) hx hb dX4_isRoom_1 rfl ?_
  refine lv_lconst (v := 0) hx hb dX4_isRoom_2 (by decide) ?_
  refine lv_ldc2 hx hb hown (hts (.constantLong RX4 40 (35)) (List.mem_of_getElem? (i := 1) rfl)) dX4_isRoom_3 ?_
  obtain ⟨q, h_1, hf⟩ := bd_some hf
  obtain ⟨r_2, rfl⟩ : ∃ z, z = q := ⟨_, rfl⟩
  try dsimp only at hf
  refine cl_i (ws := []) (wc := []) (wr := []) (w1 := []) (ws' := []) hP hD hS hA [] [] [] rfl rfl (by decide) (by decide) rfl (by decide) (va_runS (As := [.long (p0 : Int32).toInt64, .long 0, .long 35]) (rest := []) ⟨hx, hb, hml, hown, hts⟩ (kX4_in l D cI cB cL _ (p0 : Int32).toInt64 0 35 r_2 h_1) (va_cwS 3 hts gX4_isRoom_X4_in rfl rfl rfl (by decide +kernel) ⟨Nat.le_of_ble_eq_true rfl, Nat.le_of_ble_eq_true rfl⟩) (pre_S hK hE hP hD hS hA [] rfl (by decide)) rfl rfl hl.1 rfl (lv_room (Nat.le_of_ble_eq_true rfl)) dX4_isRoom_6 ⟨Nat.le_of_ble_eq_true rfl, Nat.le_of_ble_eq_true rfl⟩) (fun H locs hP hD hS => ?_)
  obtain ⟨z_3, hf⟩ := gz_some hf
  cases hf
  exact rt_z hQ hx hb hr (isz_n z_3) hlocks hP hD hS dX4_isRoom_9
abbrev rmX4_isOne : Room := ({ frames := 2, cells := 0, slots := 0, locals := 25 })
set_option maxHeartbeats 4000000 in
set_option maxRecDepth 100000 in
theorem kX4_isOne (l : Launch) (D : va_G) (cI cB cL : ClassId) (b0 : Nat) (sz : Nat) (S : Nat → Int32) (p1 : Int32) (w : Int32) (hf : fX4_isOne S p1 = some w) : Met l yX4_isOne wsX4_isOne rmX4_isOne (mPc D (tyK cI cB cL) [.ref b0, .int p1] sz [(b0, .inl (cI, 220, .inl S))]) (mQi D w [(b0, .inl (cI, 220, .inl S))] (va_A [(b0, .inl (cI, 220, .inl S))] sz)) 0 0 (va_A [(b0, .inl (cI, 220, .inl S))] sz) := by
  refine m_of (Qf := mQi D w [(b0, .inl (cI, 220, .inl S))]) (cc := cX4_isOne) (maxL := 2) (ret := (some .boolean)) (by decide) rfl (Nat.le_of_ble_eq_true rfl) ?_
  intro p e s m args below meth c A ls hsz hx hb hr hml hown hts hlocks hP hK hD hS hA hE hin hl Q hQ
  subst hsz
  have hl : lv_has ls 2 [(0, .ref b0), (1, .int p1)] := hl
  have hown : s.vm.findClass RX4 = some m.cls := hown
  unfold fX4_isOne at hf
  refine lv_iload_n hx hb dX4_isOne_0 rfl (lv_at hl 1 rfl) ?_
  refine lv_i2l (v := (p1 : Int32).toInt64) hx hb dX4_isOne_1 rfl ?_
  refine lv_lconst (v := 0) hx hb dX4_isOne_2 (by decide) ?_
  refine lv_aload_n hx hb dX4_isOne_3 rfl (lv_at hl 0 rfl) ?_
  refine lv_iconst (v := 0) hx hb dX4_isOne_4 (by decide) ?_
  refine x_iald hx hb hK hP 0 0 rfl rfl (vl rfl) 0 rfl dX4_isOne_5 ?_
  refine lv_iconst (v := 1) hx hb dX4_isOne_6 (by decide) ?_
  refine lv_isub hx hb dX4_isOne_7 ?_
  refine lv_i2l (v := (((S 0) - 1) : Int32).toInt64) hx hb dX4_isOne_8 rfl ?_
  obtain ⟨q, h_1, hf⟩ := bd_some hf
  obtain ⟨r_2, rfl⟩ : ∃ z, z = q := ⟨_, rfl⟩
  try dsimp only at hf
  refine cl_i (ws := [(b0, .inl (cI, 220, .inl S))]) (wc := []) (wr := [(b0, .inl (cI, 220, .inl S))]) (w1 := []) (ws' := [(b0, .inl (cI, 220, .inl S))]) hP hD hS hA [] [0] [0] rfl rfl (by decide) (by decide) rfl (by decide) (va_runS (As := [.long (p1 : Int32).toInt64, .long 0, .long (((S 0) - 1) : Int32).toInt64]) (rest := []) ⟨hx, hb, hml, hown, hts⟩ (kX4_in l D cI cB cL _ (p1 : Int32).toInt64 0 (((S 0) - 1) : Int32).toInt64 r_2 h_1) (va_cwS 3 hts gX4_isOne_X4_in rfl rfl rfl (by decide +kernel) ⟨Nat.le_of_ble_eq_true rfl, Nat.le_of_ble_eq_true rfl⟩) (pre_S hK hE hP hD hS hA [] rfl (by decide)) rfl rfl hl.1 rfl (lv_room (Nat.le_of_ble_eq_true rfl)) dX4_isOne_9 ⟨Nat.le_of_ble_eq_true rfl, Nat.le_of_ble_eq_true rfl⟩) (fun H locs hP hD hS => ?_)
  obtain ⟨z_3, hf⟩ := gz_some hf
  cases hf
  exact rt_z hQ hx hb hr (isz_n z_3) hlocks hP hD hS dX4_isOne_12
abbrev rmX4_isLength : Room := ({ frames := 2, cells := 0, slots := 0, locals := 25 })
set_option maxHeartbeats 4000000 in
set_option maxRecDepth 100000 in
theorem kX4_isLength (l : Launch) (D : va_G) (cI cB cL : ClassId) (sz : Nat) (p0 : Int32) (w : Int32) (hf : fX4_isLength p0 = some w) : Met l yX4_isLength wsX4_isLength rmX4_isLength (mPc D (tyK cI cB cL) [.int p0] sz []) (mQi D w [] (va_A [] sz)) 0 0 (va_A [] sz) := by
  refine m_of (Qf := mQi D w []) (cc := cX4_isLength) (maxL := 1) (ret := (some .boolean)) (by decide) rfl (Nat.le_of_ble_eq_true rfl) ?_
  intro p e s m args below meth c A ls hsz hx hb hr hml hown hts hlocks hP hK hD hS hA hE hin hl Q hQ
  subst hsz
  have hl : lv_has ls 1 [(0, .int p0)] := hl
  have hown : s.vm.findClass RX4 = some m.cls := hown
  unfold fX4_isLength at hf
  refine lv_iload_n hx hb dX4_isLength_0 rfl (lv_at hl 0 rfl) ?_
  refine lv_i2l (v := (p0 : Int32).toInt64) hx hb dX4_isLength_1 rfl ?_
  refine lv_lconst (v := 1) hx hb dX4_isLength_2 (by decide) ?_
  refine lv_ldc2 hx hb hown (hts (.constantLong RX4 46 (9)) (List.mem_of_getElem? (i := 1) rfl)) dX4_isLength_3 ?_
  obtain ⟨q, h_1, hf⟩ := bd_some hf
  obtain ⟨r_2, rfl⟩ : ∃ z, z = q := ⟨_, rfl⟩
  try dsimp only at hf
  refine cl_i (ws := []) (wc := []) (wr := []) (w1 := []) (ws' := []) hP hD hS hA [] [] [] rfl rfl (by decide) (by decide) rfl (by decide) (va_runS (As := [.long (p0 : Int32).toInt64, .long 1, .long 9]) (rest := []) ⟨hx, hb, hml, hown, hts⟩ (kX4_in l D cI cB cL _ (p0 : Int32).toInt64 1 9 r_2 h_1) (va_cwS 3 hts gX4_isLength_X4_in rfl rfl rfl (by decide +kernel) ⟨Nat.le_of_ble_eq_true rfl, Nat.le_of_ble_eq_true rfl⟩) (pre_S hK hE hP hD hS hA [] rfl (by decide)) rfl rfl hl.1 rfl (lv_room (Nat.le_of_ble_eq_true rfl)) dX4_isLength_6 ⟨Nat.le_of_ble_eq_true rfl, Nat.le_of_ble_eq_true rfl⟩) (fun H locs hP hD hS => ?_)
  obtain ⟨z_3, hf⟩ := gz_some hf
  cases hf
  exact rt_z hQ hx hb hr (isz_n z_3) hlocks hP hD hS dX4_isLength_9
abbrev rmX4_isIn : Room := ({ frames := 2, cells := 0, slots := 0, locals := 22 })
set_option maxHeartbeats 4000000 in
set_option maxRecDepth 100000 in
theorem kX4_isIn (l : Launch) (D : va_G) (cI cB cL : ClassId) (b0 : Nat) (sz : Nat) (S : Nat → Int32) (p1 : Int32) (p2 : Int32) (w : Int32) (hf : fX4_isIn S p1 p2 = some w) : Met l yX4_isIn wsX4_isIn rmX4_isIn (mPc D (tyK cI cB cL) [.ref b0, .int p1, .int p2] sz [(b0, .inl (cI, 220, .inl S))]) (mQi D w [(b0, .inl (cI, 220, .inl S))] (va_A [(b0, .inl (cI, 220, .inl S))] sz)) 0 0 (va_A [(b0, .inl (cI, 220, .inl S))] sz) := by
  refine m_of (Qf := mQi D w [(b0, .inl (cI, 220, .inl S))]) (cc := cX4_isIn) (maxL := 3) (ret := (some .boolean)) (by decide) rfl (Nat.le_of_ble_eq_true rfl) ?_
  intro p e s m args below meth c A ls hsz hx hb hr hml hown hts hlocks hP hK hD hS hA hE hin hl Q hQ
  subst hsz
  have hl : lv_has ls 3 [(0, .ref b0), (1, .int p1), (2, .int p2)] := hl
  have hown : s.vm.findClass RX4 = some m.cls := hown
  unfold fX4_isIn at hf
  refine lv_aload_n hx hb dX4_isIn_0 rfl (lv_at hl 0 rfl) ?_
  refine lv_iload_n hx hb dX4_isIn_1 rfl (lv_at hl 1 rfl) ?_
  refine lv_iconst (v := 0) hx hb dX4_isIn_2 (by decide) ?_
  obtain ⟨q, h_1, hf⟩ := bd_some hf
  obtain ⟨r_2, rfl⟩ : ∃ z, z = q := ⟨_, rfl⟩
  try dsimp only at hf
  refine cl_i (ws := [(b0, .inl (cI, 220, .inl S))]) (wc := [(b0, .inl (cI, 220, .inl S))]) (wr := []) (w1 := [(b0, .inl (cI, 220, .inl S))]) (ws' := [(b0, .inl (cI, 220, .inl S))]) hP hD hS hA [0] [] [0] rfl rfl (by decide) (by decide) rfl (by decide) (va_runS (As := [.ref b0, .int p1, .int 0]) (rest := []) ⟨hx, hb, hml, hown, hts⟩ (kX4_of l D cI cB cL b0 _ S p1 0 r_2 h_1) (va_cwS 3 hts gX4_isIn_X4_of rfl rfl rfl (by decide +kernel) ⟨Nat.le_of_ble_eq_true rfl, Nat.le_of_ble_eq_true rfl⟩) (pre_S hK hE hP hD hS hA [0] rfl (by decide)) rfl rfl hl.1 rfl (lv_room (Nat.le_of_ble_eq_true rfl)) dX4_isIn_3 ⟨Nat.le_of_ble_eq_true rfl, Nat.le_of_ble_eq_true rfl⟩) (fun H locs hP hD hS => ?_)
  refine lv_iload_n hx hb dX4_isIn_6 rfl (lv_at hl 2 rfl) ?_
  refine lv_icmp_ne (tgt := 14) hx hb dX4_isIn_7 (by decide) (fun c_3 => ?_) (fun c_3 => ?_)
  · have hf := br_neg c_3 hf
    refine lv_iconst (v := 0) hx hb dX4_isIn_14 (by decide) ?_
    cases hf
    exact rt_z hQ hx hb hr rfl hlocks hP hD hS dX4_isIn_15
  · have hf := br_pos c_3 hf
    refine lv_iconst (v := 1) hx hb dX4_isIn_10 (by decide) ?_
    refine lv_goto (tgt := 15) hx hb dX4_isIn_11 (by decide) ?_
    cases hf
    exact rt_z hQ hx hb hr rfl hlocks hP hD hS dX4_isIn_15
abbrev rmX4_count : Room := ({ frames := 3, cells := 0, slots := 0, locals := 44 })
set_option maxHeartbeats 4000000 in
set_option maxRecDepth 100000 in
theorem kX4_count (l : Launch) (D : va_G) (cI cB cL : ClassId) (b0 : Nat) (sz : Nat) (S : Nat → Int32) (p1 : Int32) (w : Int32) (hf : fX4_count S p1 = some w) : Met l yX4_count wsX4_count rmX4_count (mPc D (tyK cI cB cL) [.ref b0, .int p1] sz [(b0, .inl (cI, 220, .inl S))]) (mQi D w [(b0, .inl (cI, 220, .inl S))] (va_A [(b0, .inl (cI, 220, .inl S))] sz)) 0 0 (va_A [(b0, .inl (cI, 220, .inl S))] sz) := by
  refine m_of (Qf := mQi D w [(b0, .inl (cI, 220, .inl S))]) (cc := cX4_count) (maxL := 4) (ret := (some .int)) (by decide) rfl (Nat.le_of_ble_eq_true rfl) ?_
  intro p e s m args below meth c A ls hsz hx hb hr hml hown hts hlocks hP hK hD hS hA hE hin hl Q hQ
  subst hsz
  have hl : lv_has ls 4 [(0, .ref b0), (1, .int p1)] := hl
  have hown : s.vm.findClass RX4 = some m.cls := hown
  have hl0 := hl
  have g26 : ∀ (k4 : Int32 → Int32 → Option (Int32)) (hk4 : ∀ (v2 : Int32) (v3 : Int32) (H : Heap) (locs : List Loc) (ls : Array Slot), k4 v2 v3 = some w → va_P D vwCl [(b0, .inl (cI, 220, .inl S))] H → va_D A [(b0, .inl (cI, 220, .inl S))] → va_S A s.heap H locs → lv_has ls 4 [(0, .ref b0), (1, .int p1), (2, .int v2), (3, .int v3)] → W p l e rmX4_count s m args below meth c H locs 0 0 Q (F0 m 4 ls [])) (v3 : Int32) (z0 : Int32) (z1 : Int32) (H : Heap) (locs : List Loc) (ls : Array Slot), fX4_count_26 k4 v3 z0 z1 = some w → va_P D vwCl [(b0, .inl (cI, 220, .inl S))] H → va_D A [(b0, .inl (cI, 220, .inl S))] → va_S A s.heap H locs → lv_has ls 4 [(0, .ref b0), (1, .int p1), (3, .int v3)] → W p l e rmX4_count s m args below meth c H locs 0 0 Q (F0 m 26 ls [.int z0, .int z1]) := by
    intro k4 hk4 v3 z0 z1 H locs ls hf hP hD hS hl
    unfold fX4_count_26 at hf
    refine lv_iadd hx hb dX4_count_26 ?_
    refine lv_istore_n (lv' := [(2, .int (z1 + z0)), (0, .ref b0), (1, .int p1), (3, .int v3)]) hx hb dX4_count_27 rfl hl (by decide) rfl (fun ls hl => ?_)
    refine lv_iinc (v := (v3 + 1)) (lv' := [(3, .int (v3 + 1)), (2, .int (z1 + z0)), (0, .ref b0), (1, .int p1)]) hx hb dX4_count_28 hl (k := 3) rfl rfl (by decide) rfl (fun ls hl => ?_)
    refine lv_goto (tgt := 4) hx hb dX4_count_31 (by decide) ?_
    exact hk4 (z1 + z0) (v3 + 1) _ _ _ hf hP hD hS (lv_sub hl [2, 3, 1, 0] rfl)
  have g4 : ∀ (n : Nat) (v2 : Int32) (v3 : Int32) (H : Heap) (locs : List Loc) (ls : Array Slot), fX4_count_4 S p1 n v2 v3 = some w → va_P D vwCl [(b0, .inl (cI, 220, .inl S))] H → va_D A [(b0, .inl (cI, 220, .inl S))] → va_S A s.heap H locs → lv_has ls 4 [(0, .ref b0), (1, .int p1), (2, .int v2), (3, .int v3)] → W p l e rmX4_count s m args below meth c H locs 0 0 Q (F0 m 4 ls []) := by
    intro  n
    induction n with
    | zero =>
      intro v2 v3 H locs ls hf
      exact absurd hf (by rw [fX4_count_4]; simp)
    | succ n ih =>
      intro v2 v3 H locs ls hf hP hD hS hl
      rw [fX4_count_4] at hf
      refine lv_iload_n hx hb dX4_count_4 rfl (lv_at hl 3 rfl) ?_
      refine lv_aload_n hx hb dX4_count_5 rfl (lv_at hl 0 rfl) ?_
      refine lv_iconst (v := 0) hx hb dX4_count_6 (by decide) ?_
      refine x_iald hx hb hK hP 0 0 rfl rfl (vl rfl) 0 rfl dX4_count_7 ?_
      refine lv_icmp_ge (tgt := 34) hx hb dX4_count_8 (by decide) (fun c_1 => ?_) (fun c_1 => ?_)
      · have hf := br_pos c_1 hf
        refine lv_iload_n hx hb dX4_count_34 rfl (lv_at hl 2 rfl) ?_
        cases hf
        exact rt_i hQ hx hb hr hlocks hP hD hS dX4_count_35
      · have hf := br_neg c_1 hf
        refine lv_iload_n hx hb dX4_count_11 rfl (lv_at hl 2 rfl) ?_
        refine lv_aload_n hx hb dX4_count_12 rfl (lv_at hl 0 rfl) ?_
        refine lv_iload_n hx hb dX4_count_13 rfl (lv_at hl 3 rfl) ?_
        refine lv_iload_n hx hb dX4_count_14 rfl (lv_at hl 1 rfl) ?_
        obtain ⟨q, h_2, hf⟩ := bd_some hf
        obtain ⟨r_3, rfl⟩ : ∃ z, z = q := ⟨_, rfl⟩
        try dsimp only at hf
        refine cl_i (ws := [(b0, .inl (cI, 220, .inl S))]) (wc := [(b0, .inl (cI, 220, .inl S))]) (wr := []) (w1 := [(b0, .inl (cI, 220, .inl S))]) (ws' := [(b0, .inl (cI, 220, .inl S))]) hP hD hS hA [0] [] [0] rfl rfl (by decide) (by decide) rfl (by decide) (va_runS (As := [.ref b0, .int v3, .int p1]) (rest := [.int v2]) ⟨hx, hb, hml, hown, hts⟩ (kX4_isIn l D cI cB cL b0 _ S v3 p1 r_3 h_2) (va_cwS 3 hts gX4_count_X4_isIn rfl rfl rfl (by decide +kernel) ⟨Nat.le_of_ble_eq_true rfl, Nat.le_of_ble_eq_true rfl⟩) (pre_S hK hE hP hD hS hA [0] rfl (by decide)) rfl rfl hl.1 rfl (lv_room (Nat.le_of_ble_eq_true rfl)) dX4_count_15 ⟨Nat.le_of_ble_eq_true rfl, Nat.le_of_ble_eq_true rfl⟩) (fun H locs hP hD hS => ?_)
        refine lv_if_eq (tgt := 25) hx hb dX4_count_18 (by decide) (fun c_4 => ?_) (fun c_4 => ?_)
        · have hf := br_pos c_4 hf
          refine lv_iconst (v := 0) hx hb dX4_count_25 (by decide) ?_
          exact g26 (fX4_count_4 S p1 n) ih v3 0 v2 _ _ _ hf hP hD hS (lv_sub hl [0, 1, 3] rfl)
        · have hf := br_neg c_4 hf
          refine lv_iconst (v := 1) hx hb dX4_count_21 (by decide) ?_
          refine lv_goto (tgt := 26) hx hb dX4_count_22 (by decide) ?_
          exact g26 (fX4_count_4 S p1 n) ih v3 1 v2 _ _ _ hf hP hD hS (lv_sub hl [0, 1, 3] rfl)
  unfold fX4_count at hf
  refine lv_iconst (v := 0) hx hb dX4_count_0 (by decide) ?_
  refine lv_istore_n (lv' := [(2, .int 0), (0, .ref b0), (1, .int p1)]) hx hb dX4_count_1 rfl hl (by decide) rfl (fun ls hl => ?_)
  refine lv_iconst (v := 0) hx hb dX4_count_2 (by decide) ?_
  refine lv_istore_n (lv' := [(3, .int 0), (2, .int 0), (0, .ref b0), (1, .int p1)]) hx hb dX4_count_3 rfl hl (by decide) rfl (fun ls hl => ?_)
  exact g4 5000 0 0 _ _ _ hf hP hD hS (lv_sub hl [2, 3, 1, 0] rfl)
abbrev rmX4_shutOnes : Room := ({ frames := 1, cells := 0, slots := 0, locals := 0 })
set_option maxHeartbeats 4000000 in
set_option maxRecDepth 100000 in
theorem kX4_shutOnes (l : Launch) (D : va_G) (cI cB cL : ClassId) (b0 : Nat) (sz : Nat) (S : Nat → Int32) (w : Int32) (hf : fX4_shutOnes S = some w) : Met l yX4_shutOnes wsX4_shutOnes rmX4_shutOnes (mPc D (tyK cI cB cL) [.ref b0] sz [(b0, .inl (cI, 220, .inl S))]) (mQi D w [(b0, .inl (cI, 220, .inl S))] (va_A [(b0, .inl (cI, 220, .inl S))] sz)) 0 0 (va_A [(b0, .inl (cI, 220, .inl S))] sz) := by
  refine m_of (Qf := mQi D w [(b0, .inl (cI, 220, .inl S))]) (cc := cX4_shutOnes) (maxL := 3) (ret := (some .int)) (by decide) rfl (Nat.le_of_ble_eq_true rfl) ?_
  intro p e s m args below meth c A ls hsz hx hb hr hml hown hts hlocks hP hK hD hS hA hE hin hl Q hQ
  subst hsz
  have hl : lv_has ls 3 [(0, .ref b0)] := hl
  have hown : s.vm.findClass RX4 = some m.cls := hown
  have hl0 := hl
  have g4 : ∀ (n : Nat) (v1 : Int32) (v2 : Int32) (H : Heap) (locs : List Loc) (ls : Array Slot), fX4_shutOnes_4 S n v1 v2 = some w → va_P D vwCl [(b0, .inl (cI, 220, .inl S))] H → va_D A [(b0, .inl (cI, 220, .inl S))] → va_S A s.heap H locs → lv_has ls 3 [(0, .ref b0), (1, .int v1), (2, .int v2)] → W p l e rmX4_shutOnes s m args below meth c H locs 0 0 Q (F0 m 4 ls []) := by
    intro  n
    induction n with
    | zero =>
      intro v1 v2 H locs ls hf
      exact absurd hf (by rw [fX4_shutOnes_4]; simp)
    | succ n ih =>
      intro v1 v2 H locs ls hf hP hD hS hl
      rw [fX4_shutOnes_4] at hf
      refine lv_iload_n hx hb dX4_shutOnes_4 rfl (lv_at hl 2 rfl) ?_
      refine lv_bipush (v := 36) hx hb dX4_shutOnes_5 (by decide) ?_
      refine lv_icmp_ge (tgt := 24) hx hb dX4_shutOnes_7 (by decide) (fun c_1 => ?_) (fun c_1 => ?_)
      · have hf := br_pos c_1 hf
        refine lv_iload_n hx hb dX4_shutOnes_24 rfl (lv_at hl 1 rfl) ?_
        cases hf
        exact rt_i hQ hx hb hr hlocks hP hD hS dX4_shutOnes_25
      · have hf := br_neg c_1 hf
        refine lv_iload_n hx hb dX4_shutOnes_10 rfl (lv_at hl 1 rfl) ?_
        refine lv_aload_n hx hb dX4_shutOnes_11 rfl (lv_at hl 0 rfl) ?_
        refine lv_iconst (v := 4) hx hb dX4_shutOnes_12 (by decide) ?_
        refine lv_iload_n hx hb dX4_shutOnes_13 rfl (lv_at hl 2 rfl) ?_
        refine lv_iadd hx hb dX4_shutOnes_14 ?_
        obtain ⟨i_2, hf⟩ := gd_some hf
        refine x_iald hx hb hK hP 0 0 rfl rfl i_2 _ rfl dX4_shutOnes_15 ?_
        refine lv_iadd hx hb dX4_shutOnes_16 ?_
        refine lv_istore_n (lv' := [(1, .int (v1 + (S (4 + v2).toNatClampNeg))), (0, .ref b0), (2, .int v2)]) hx hb dX4_shutOnes_17 rfl hl (by decide) rfl (fun ls hl => ?_)
        refine lv_iinc (v := (v2 + 1)) (lv' := [(2, .int (v2 + 1)), (1, .int (v1 + (S (4 + v2).toNatClampNeg))), (0, .ref b0)]) hx hb dX4_shutOnes_18 hl (k := 2) rfl rfl (by decide) rfl (fun ls hl => ?_)
        refine lv_goto (tgt := 4) hx hb dX4_shutOnes_21 (by decide) ?_
        exact ih (v1 + (S (4 + v2).toNatClampNeg)) (v2 + 1) _ _ _ hf hP hD hS (lv_sub hl [2, 1, 0] rfl)
  unfold fX4_shutOnes at hf
  refine lv_iconst (v := 0) hx hb dX4_shutOnes_0 (by decide) ?_
  refine lv_istore_n (lv' := [(1, .int 0), (0, .ref b0)]) hx hb dX4_shutOnes_1 rfl hl (by decide) rfl (fun ls hl => ?_)
  refine lv_iconst (v := 0) hx hb dX4_shutOnes_2 (by decide) ?_
  refine lv_istore_n (lv' := [(2, .int 0), (1, .int 0), (0, .ref b0)]) hx hb dX4_shutOnes_3 rfl hl (by decide) rfl (fun ls hl => ?_)
  exact g4 5000 0 0 _ _ _ hf hP hD hS (lv_sub hl [2, 1, 0] rfl)
abbrev rmX4_takenBy : Room := ({ frames := 2, cells := 0, slots := 0, locals := 22 })
set_option maxHeartbeats 4000000 in
set_option maxRecDepth 100000 in
theorem kX4_takenBy (l : Launch) (D : va_G) (cI cB cL : ClassId) (b0 : Nat) (sz : Nat) (S : Nat → Int32) (p1 : Int32) (w : Int32) (hf : fX4_takenBy S p1 = some w) : Met l yX4_takenBy wsX4_takenBy rmX4_takenBy (mPc D (tyK cI cB cL) [.ref b0, .int p1] sz [(b0, .inl (cI, 220, .inl S))]) (mQi D w [(b0, .inl (cI, 220, .inl S))] (va_A [(b0, .inl (cI, 220, .inl S))] sz)) 0 0 (va_A [(b0, .inl (cI, 220, .inl S))] sz) := by
  refine m_of (Qf := mQi D w [(b0, .inl (cI, 220, .inl S))]) (cc := cX4_takenBy) (maxL := 4) (ret := (some .int)) (by decide) rfl (Nat.le_of_ble_eq_true rfl) ?_
  intro p e s m args below meth c A ls hsz hx hb hr hml hown hts hlocks hP hK hD hS hA hE hin hl Q hQ
  subst hsz
  have hl : lv_has ls 4 [(0, .ref b0), (1, .int p1)] := hl
  have hown : s.vm.findClass RX4 = some m.cls := hown
  have hl0 := hl
  have g11 : ∀ (k2 : Int32 → Option (Int32)) (hk2 : ∀ (v2 : Int32) (H : Heap) (locs : List Loc) (ls : Array Slot), k2 v2 = some w → va_P D vwCl [(b0, .inl (cI, 220, .inl S))] H → va_D A [(b0, .inl (cI, 220, .inl S))] → va_S A s.heap H locs → lv_has ls 4 [(0, .ref b0), (1, .int p1), (2, .int v2)] → W p l e rmX4_takenBy s m args below meth c H locs 0 0 Q (F0 m 2 ls [])) (n : Nat) (v2 : Int32) (v3 : Int32) (H : Heap) (locs : List Loc) (ls : Array Slot), fX4_takenBy_11 k2 S p1 n v2 v3 = some w → va_P D vwCl [(b0, .inl (cI, 220, .inl S))] H → va_D A [(b0, .inl (cI, 220, .inl S))] → va_S A s.heap H locs → lv_has ls 4 [(0, .ref b0), (1, .int p1), (2, .int v2), (3, .int v3)] → W p l e rmX4_takenBy s m args below meth c H locs 0 0 Q (F0 m 11 ls []) := by
    intro k2 hk2 n
    induction n with
    | zero =>
      intro v2 v3 H locs ls hf
      exact absurd hf (by rw [fX4_takenBy_11]; simp)
    | succ n ih =>
      intro v2 v3 H locs ls hf hP hD hS hl
      rw [fX4_takenBy_11] at hf
      refine lv_iload_n hx hb dX4_takenBy_11 rfl (lv_at hl 3 rfl) ?_
      refine lv_aload_n hx hb dX4_takenBy_12 rfl (lv_at hl 0 rfl) ?_
      refine lv_iload_n hx hb dX4_takenBy_13 rfl (lv_at hl 2 rfl) ?_
      refine lv_iconst (v := 1) hx hb dX4_takenBy_14 (by decide) ?_
      obtain ⟨q, h_1, hf⟩ := bd_some hf
      obtain ⟨r_2, rfl⟩ : ∃ z, z = q := ⟨_, rfl⟩
      try dsimp only at hf
      refine cl_i (ws := [(b0, .inl (cI, 220, .inl S))]) (wc := [(b0, .inl (cI, 220, .inl S))]) (wr := []) (w1 := [(b0, .inl (cI, 220, .inl S))]) (ws' := [(b0, .inl (cI, 220, .inl S))]) hP hD hS hA [0] [] [0] rfl rfl (by decide) (by decide) rfl (by decide) (va_runS (As := [.ref b0, .int v2, .int 1]) (rest := [.int v3]) ⟨hx, hb, hml, hown, hts⟩ (kX4_of l D cI cB cL b0 _ S v2 1 r_2 h_1) (va_cwS 3 hts gX4_takenBy_X4_of rfl rfl rfl (by decide +kernel) ⟨Nat.le_of_ble_eq_true rfl, Nat.le_of_ble_eq_true rfl⟩) (pre_S hK hE hP hD hS hA [0] rfl (by decide)) rfl rfl hl.1 rfl (lv_room (Nat.le_of_ble_eq_true rfl)) dX4_takenBy_15 ⟨Nat.le_of_ble_eq_true rfl, Nat.le_of_ble_eq_true rfl⟩) (fun H locs hP hD hS => ?_)
      refine lv_icmp_ge (tgt := 42) hx hb dX4_takenBy_18 (by decide) (fun c_3 => ?_) (fun c_3 => ?_)
      · have hf := br_pos c_3 hf
        refine lv_iinc (v := (v2 + 1)) (lv' := [(2, .int (v2 + 1)), (0, .ref b0), (1, .int p1), (3, .int v3)]) hx hb dX4_takenBy_42 hl (k := 2) rfl rfl (by decide) rfl (fun ls hl => ?_)
        refine lv_goto (tgt := 2) hx hb dX4_takenBy_45 (by decide) ?_
        exact hk2 (v2 + 1) _ _ _ hf hP hD hS (lv_sub hl [1, 2, 0] rfl)
      · have hf := br_neg c_3 hf
        refine lv_aload_n hx hb dX4_takenBy_21 rfl (lv_at hl 0 rfl) ?_
        refine lv_iload_n hx hb dX4_takenBy_22 rfl (lv_at hl 2 rfl) ?_
        refine lv_bipush (v := 9) hx hb dX4_takenBy_23 (by decide) ?_
        refine lv_iload_n hx hb dX4_takenBy_25 rfl (lv_at hl 3 rfl) ?_
        refine lv_iadd hx hb dX4_takenBy_26 ?_
        obtain ⟨q, h_4, hf⟩ := bd_some hf
        obtain ⟨r_5, rfl⟩ : ∃ z, z = q := ⟨_, rfl⟩
        try dsimp only at hf
        refine cl_i (ws := [(b0, .inl (cI, 220, .inl S))]) (wc := [(b0, .inl (cI, 220, .inl S))]) (wr := []) (w1 := [(b0, .inl (cI, 220, .inl S))]) (ws' := [(b0, .inl (cI, 220, .inl S))]) hP hD hS hA [0] [] [0] rfl rfl (by decide) (by decide) rfl (by decide) (va_runS (As := [.ref b0, .int v2, .int (9 + v3)]) (rest := []) ⟨hx, hb, hml, hown, hts⟩ (kX4_of l D cI cB cL b0 _ S v2 (9 + v3) r_5 h_4) (va_cwS 3 hts gX4_takenBy_X4_of rfl rfl rfl (by decide +kernel) ⟨Nat.le_of_ble_eq_true rfl, Nat.le_of_ble_eq_true rfl⟩) (pre_S hK hE hP hD hS hA [0] rfl (by decide)) rfl rfl hl.1 rfl (lv_room (Nat.le_of_ble_eq_true rfl)) dX4_takenBy_27 ⟨Nat.le_of_ble_eq_true rfl, Nat.le_of_ble_eq_true rfl⟩) (fun H locs hP hD hS => ?_)
        refine lv_iload_n hx hb dX4_takenBy_30 rfl (lv_at hl 1 rfl) ?_
        refine lv_icmp_ne (tgt := 36) hx hb dX4_takenBy_31 (by decide) (fun c_6 => ?_) (fun c_6 => ?_)
        · have hf := br_neg c_6 hf
          refine lv_iinc (v := (v3 + 1)) (lv' := [(3, .int (v3 + 1)), (0, .ref b0), (1, .int p1), (2, .int v2)]) hx hb dX4_takenBy_36 hl (k := 3) rfl rfl (by decide) rfl (fun ls hl => ?_)
          refine lv_goto (tgt := 11) hx hb dX4_takenBy_39 (by decide) ?_
          exact ih v2 (v3 + 1) _ _ _ hf hP hD hS (lv_sub hl [1, 2, 3, 0] rfl)
        · have hf := br_pos c_6 hf
          refine lv_iload_n hx hb dX4_takenBy_34 rfl (lv_at hl 2 rfl) ?_
          cases hf
          exact rt_i hQ hx hb hr hlocks hP hD hS dX4_takenBy_35
  have g2 : ∀ (n : Nat) (v2 : Int32) (H : Heap) (locs : List Loc) (ls : Array Slot), fX4_takenBy_2 S p1 n v2 = some w → va_P D vwCl [(b0, .inl (cI, 220, .inl S))] H → va_D A [(b0, .inl (cI, 220, .inl S))] → va_S A s.heap H locs → lv_has ls 4 [(0, .ref b0), (1, .int p1), (2, .int v2)] → W p l e rmX4_takenBy s m args below meth c H locs 0 0 Q (F0 m 2 ls []) := by
    intro  n
    induction n with
    | zero =>
      intro v2 H locs ls hf
      exact absurd hf (by rw [fX4_takenBy_2]; simp)
    | succ n ih =>
      intro v2 H locs ls hf hP hD hS hl
      rw [fX4_takenBy_2] at hf
      refine lv_iload_n hx hb dX4_takenBy_2 rfl (lv_at hl 2 rfl) ?_
      refine lv_aload_n hx hb dX4_takenBy_3 rfl (lv_at hl 0 rfl) ?_
      refine lv_iconst (v := 0) hx hb dX4_takenBy_4 (by decide) ?_
      refine x_iald hx hb hK hP 0 0 rfl rfl (vl rfl) 0 rfl dX4_takenBy_5 ?_
      refine lv_icmp_ge (tgt := 48) hx hb dX4_takenBy_6 (by decide) (fun c_7 => ?_) (fun c_7 => ?_)
      · have hf := br_pos c_7 hf
        refine lv_iconst (v := (-1)) hx hb dX4_takenBy_48 (by decide) ?_
        cases hf
        exact rt_i hQ hx hb hr hlocks hP hD hS dX4_takenBy_49
      · have hf := br_neg c_7 hf
        refine lv_iconst (v := 0) hx hb dX4_takenBy_9 (by decide) ?_
        refine lv_istore_n (lv' := [(3, .int 0), (0, .ref b0), (1, .int p1), (2, .int v2)]) hx hb dX4_takenBy_10 rfl hl (by decide) rfl (fun ls hl => ?_)
        exact g11 (fX4_takenBy_2 S p1 n) ih 5000 v2 0 _ _ _ hf hP hD hS (lv_sub hl [1, 2, 3, 0] rfl)
  unfold fX4_takenBy at hf
  refine lv_iconst (v := 0) hx hb dX4_takenBy_0 (by decide) ?_
  refine lv_istore_n (lv' := [(2, .int 0), (0, .ref b0), (1, .int p1)]) hx hb dX4_takenBy_1 rfl hl (by decide) rfl (fun ls hl => ?_)
  exact g2 5000 0 _ _ _ hf hP hD hS (lv_sub hl [1, 2, 0] rfl)
abbrev rmX4_isFree : Room := ({ frames := 3, cells := 0, slots := 0, locals := 45 })
set_option maxHeartbeats 4000000 in
set_option maxRecDepth 100000 in
theorem kX4_isFree (l : Launch) (D : va_G) (cI cB cL : ClassId) (b0 : Nat) (sz : Nat) (S : Nat → Int32) (p1 : Int32) (w : Int32) (hf : fX4_isFree S p1 = some w) : Met l yX4_isFree wsX4_isFree rmX4_isFree (mPc D (tyK cI cB cL) [.ref b0, .int p1] sz [(b0, .inl (cI, 220, .inl S))]) (mQi D w [(b0, .inl (cI, 220, .inl S))] (va_A [(b0, .inl (cI, 220, .inl S))] sz)) 0 0 (va_A [(b0, .inl (cI, 220, .inl S))] sz) := by
  refine m_of (Qf := mQi D w [(b0, .inl (cI, 220, .inl S))]) (cc := cX4_isFree) (maxL := 2) (ret := (some .boolean)) (by decide) rfl (Nat.le_of_ble_eq_true rfl) ?_
  intro p e s m args below meth c A ls hsz hx hb hr hml hown hts hlocks hP hK hD hS hA hE hin hl Q hQ
  subst hsz
  have hl : lv_has ls 2 [(0, .ref b0), (1, .int p1)] := hl
  have hown : s.vm.findClass RX4 = some m.cls := hown
  unfold fX4_isFree at hf
  refine lv_aload_n hx hb dX4_isFree_0 rfl (lv_at hl 0 rfl) ?_
  refine lv_iconst (v := 4) hx hb dX4_isFree_1 (by decide) ?_
  refine lv_iload_n hx hb dX4_isFree_2 rfl (lv_at hl 1 rfl) ?_
  refine lv_iadd hx hb dX4_isFree_3 ?_
  obtain ⟨i_1, hf⟩ := gd_some hf
  refine x_iald hx hb hK hP 0 0 rfl rfl i_1 _ rfl dX4_isFree_4 ?_
  refine lv_if_ne (tgt := 21) hx hb dX4_isFree_5 (by decide) (fun c_2 => ?_) (fun c_2 => ?_)
  · have hf := br_neg c_2 hf
    refine lv_iconst (v := 0) hx hb dX4_isFree_21 (by decide) ?_
    cases hf
    exact rt_z hQ hx hb hr rfl hlocks hP hD hS dX4_isFree_22
  · have hf := br_pos c_2 hf
    refine lv_aload_n hx hb dX4_isFree_8 rfl (lv_at hl 0 rfl) ?_
    refine lv_iload_n hx hb dX4_isFree_9 rfl (lv_at hl 1 rfl) ?_
    obtain ⟨q, h_3, hf⟩ := bd_some hf
    obtain ⟨r_4, rfl⟩ : ∃ z, z = q := ⟨_, rfl⟩
    try dsimp only at hf
    refine cl_i (ws := [(b0, .inl (cI, 220, .inl S))]) (wc := [(b0, .inl (cI, 220, .inl S))]) (wr := []) (w1 := [(b0, .inl (cI, 220, .inl S))]) (ws' := [(b0, .inl (cI, 220, .inl S))]) hP hD hS hA [0] [] [0] rfl rfl (by decide) (by decide) rfl (by decide) (va_runS (As := [.ref b0, .int p1]) (rest := []) ⟨hx, hb, hml, hown, hts⟩ (kX4_takenBy l D cI cB cL b0 _ S p1 r_4 h_3) (va_cwS 2 hts gX4_isFree_X4_takenBy rfl rfl rfl (by decide +kernel) ⟨Nat.le_of_ble_eq_true rfl, Nat.le_of_ble_eq_true rfl⟩) (pre_S hK hE hP hD hS hA [0] rfl (by decide)) rfl rfl hl.1 rfl (lv_room (Nat.le_of_ble_eq_true rfl)) dX4_isFree_10 ⟨Nat.le_of_ble_eq_true rfl, Nat.le_of_ble_eq_true rfl⟩) (fun H locs hP hD hS => ?_)
    refine lv_iconst (v := (-1)) hx hb dX4_isFree_13 (by decide) ?_
    refine lv_icmp_ne (tgt := 21) hx hb dX4_isFree_14 (by decide) (fun c_5 => ?_) (fun c_5 => ?_)
    · have hf := br_neg c_5 hf
      refine lv_iconst (v := 0) hx hb dX4_isFree_21 (by decide) ?_
      cases hf
      exact rt_z hQ hx hb hr rfl hlocks hP hD hS dX4_isFree_22
    · have hf := br_pos c_5 hf
      refine lv_iconst (v := 1) hx hb dX4_isFree_17 (by decide) ?_
      refine lv_goto (tgt := 22) hx hb dX4_isFree_18 (by decide) ?_
      cases hf
      exact rt_z hQ hx hb hr rfl hlocks hP hD hS dX4_isFree_22
abbrev rmX4_along : Room := ({ frames := 1, cells := 0, slots := 0, locals := 0 })
set_option maxHeartbeats 4000000 in
set_option maxRecDepth 100000 in
theorem kX4_along (l : Launch) (D : va_G) (cI cB cL : ClassId) (sz : Nat) (p0 : Int32) (p1 : Int32) (p2 : Int32) (w : Int32) (hf : fX4_along p0 p1 p2 = some w) : Met l yX4_along wsX4_along rmX4_along (mPc D (tyK cI cB cL) [.int p0, .int p1, .int p2] sz []) (mQi D w [] (va_A [] sz)) 0 0 (va_A [] sz) := by
  refine m_of (Qf := mQi D w []) (cc := cX4_along) (maxL := 4) (ret := (some .int)) (by decide) rfl (Nat.le_of_ble_eq_true rfl) ?_
  intro p e s m args below meth c A ls hsz hx hb hr hml hown hts hlocks hP hK hD hS hA hE hin hl Q hQ
  subst hsz
  have hl : lv_has ls 4 [(0, .int p0), (1, .int p1), (2, .int p2)] := hl
  have hown : s.vm.findClass RX4 = some m.cls := hown
  have hl0 := hl
  have g54 : ∀ (z0 : Int32) (z1 : Int32) (z2 : Int32) (H : Heap) (locs : List Loc) (ls : Array Slot), fX4_along_54 z0 z1 z2 = some w → va_P D vwCl [] H → va_D A [] → va_S A s.heap H locs → lv_has ls 4 [] → W p l e rmX4_along s m args below meth c H locs 0 0 Q (F0 m 54 ls [.int z0, .int z1, .int z2]) := by
    intro  z0 z1 z2 H locs ls hf hP hD hS hl
    unfold fX4_along_54 at hf
    refine lv_imul hx hb dX4_along_54 ?_
    refine lv_iadd hx hb dX4_along_55 ?_
    cases hf
    exact rt_i hQ hx hb hr hlocks hP hD hS dX4_along_56
  have g44 : ∀ (z0 : Int32) (z1 : Int32) (H : Heap) (locs : List Loc) (ls : Array Slot), fX4_along_44 p2 z0 z1 = some w → va_P D vwCl [] H → va_D A [] → va_S A s.heap H locs → lv_has ls 4 [(2, .int p2)] → W p l e rmX4_along s m args below meth c H locs 0 0 Q (F0 m 44 ls [.int z0, .int z1]) := by
    intro  z0 z1 H locs ls hf hP hD hS hl
    unfold fX4_along_44 at hf
    refine lv_iload_n hx hb dX4_along_44 rfl (lv_at hl 0 rfl) ?_
    refine lv_if_eq (tgt := 52) hx hb dX4_along_45 (by decide) (fun c_1 => ?_) (fun c_1 => ?_)
    · have hf := br_pos c_1 hf
      refine lv_bipush (v := 6) hx hb dX4_along_52 (by decide) ?_
      exact g54 6 z0 z1 _ _ _ hf hP hD hS (lv_sub hl [] rfl)
    · have hf := br_neg c_1 hf
      refine lv_iconst (v := 1) hx hb dX4_along_48 (by decide) ?_
      refine lv_goto (tgt := 54) hx hb dX4_along_49 (by decide) ?_
      exact g54 1 z0 z1 _ _ _ hf hP hD hS (lv_sub hl [] rfl)
  have g25 : ∀ (z0 : Int32) (H : Heap) (locs : List Loc) (ls : Array Slot), fX4_along_25 p0 p2 z0 = some w → va_P D vwCl [] H → va_D A [] → va_S A s.heap H locs → lv_has ls 4 [(0, .int p0), (2, .int p2)] → W p l e rmX4_along s m args below meth c H locs 0 0 Q (F0 m 25 ls [.int z0]) := by
    intro  z0 H locs ls hf hP hD hS hl
    unfold fX4_along_25 at hf
    refine lv_istore_n (lv' := [(3, .int z0), (0, .int p0), (2, .int p2)]) hx hb dX4_along_25 rfl hl (by decide) rfl (fun ls hl => ?_)
    refine lv_iload_n hx hb dX4_along_26 rfl (lv_at hl 0 rfl) ?_
    refine lv_if_ne (tgt := 34) hx hb dX4_along_27 (by decide) (fun c_2 => ?_) (fun c_2 => ?_)
    · have hf := br_neg c_2 hf
      refine lv_iload_n hx hb dX4_along_34 rfl (lv_at hl 1 rfl) ?_
      refine lv_iload_n hx hb dX4_along_35 rfl (lv_at hl 0 rfl) ?_
      refine lv_if_le (tgt := 43) hx hb dX4_along_36 (by decide) (fun c_3 => ?_) (fun c_3 => ?_)
      · have hf := br_pos c_3 hf
        refine lv_iconst (v := (-1)) hx hb dX4_along_43 (by decide) ?_
        exact g44 (-1) p0 _ _ _ hf hP hD hS (lv_sub hl [2] rfl)
      · have hf := br_neg c_3 hf
        refine lv_iconst (v := 1) hx hb dX4_along_39 (by decide) ?_
        refine lv_goto (tgt := 44) hx hb dX4_along_40 (by decide) ?_
        exact g44 1 p0 _ _ _ hf hP hD hS (lv_sub hl [2] rfl)
    · have hf := br_pos c_2 hf
      refine lv_iconst (v := (-1)) hx hb dX4_along_30 (by decide) ?_
      refine lv_goto (tgt := 56) hx hb dX4_along_31 (by decide) ?_
      cases hf
      exact rt_i hQ hx hb hr hlocks hP hD hS dX4_along_56
  unfold fX4_along at hf
  refine lv_iload_n hx hb dX4_along_0 rfl (lv_at hl 2 rfl) ?_
  refine lv_if_eq (tgt := 16) hx hb dX4_along_1 (by decide) (fun c_4 => ?_) (fun c_4 => ?_)
  · have hf := br_pos c_4 hf
    refine lv_iload_n hx hb dX4_along_16 rfl (lv_at hl 1 rfl) ?_
    refine lv_bipush (v := 6) hx hb dX4_along_17 (by decide) ?_
    refine lv_idiv hx hb dX4_along_19 (by decide) ?_
    refine lv_iload_n hx hb dX4_along_20 rfl (lv_at hl 0 rfl) ?_
    refine lv_bipush (v := 6) hx hb dX4_along_21 (by decide) ?_
    refine lv_idiv hx hb dX4_along_23 (by decide) ?_
    refine lv_isub hx hb dX4_along_24 ?_
    exact g25 ((p1 / 6) - (p0 / 6)) _ _ _ hf hP hD hS (lv_sub hl [0, 2] rfl)
  · have hf := br_neg c_4 hf
    refine lv_iload_n hx hb dX4_along_4 rfl (lv_at hl 1 rfl) ?_
    refine lv_bipush (v := 6) hx hb dX4_along_5 (by decide) ?_
    refine lv_irem hx hb dX4_along_7 (by decide) ?_
    refine lv_iload_n hx hb dX4_along_8 rfl (lv_at hl 0 rfl) ?_
    refine lv_bipush (v := 6) hx hb dX4_along_9 (by decide) ?_
    refine lv_irem hx hb dX4_along_11 (by decide) ?_
    refine lv_isub hx hb dX4_along_12 ?_
    refine lv_goto (tgt := 25) hx hb dX4_along_13 (by decide) ?_
    exact g25 ((p1 - p1 / 6 * 6) - (p0 - p0 / 6 * 6)) _ _ _ hf hP hD hS (lv_sub hl [0, 2] rfl)
abbrev rmX4_nextRoom : Room := ({ frames := 4, cells := 0, slots := 0, locals := 66 })
set_option maxHeartbeats 4000000 in
set_option maxRecDepth 100000 in
theorem kX4_nextRoom (l : Launch) (D : va_G) (cI cB cL : ClassId) (b0 : Nat) (sz : Nat) (S : Nat → Int32) (p1 : Int32) (w : Int32) (hf : fX4_nextRoom S p1 = some w) : Met l yX4_nextRoom wsX4_nextRoom rmX4_nextRoom (mPc D (tyK cI cB cL) [.ref b0, .int p1] sz [(b0, .inl (cI, 220, .inl S))]) (mQi D w [(b0, .inl (cI, 220, .inl S))] (va_A [(b0, .inl (cI, 220, .inl S))] sz)) 0 0 (va_A [(b0, .inl (cI, 220, .inl S))] sz) := by
  refine m_of (Qf := mQi D w [(b0, .inl (cI, 220, .inl S))]) (cc := cX4_nextRoom) (maxL := 6) (ret := (some .int)) (by decide) rfl (Nat.le_of_ble_eq_true rfl) ?_
  intro p e s m args below meth c A ls hsz hx hb hr hml hown hts hlocks hP hK hD hS hA hE hin hl Q hQ
  subst hsz
  have hl : lv_has ls 6 [(0, .ref b0), (1, .int p1)] := hl
  have hown : s.vm.findClass RX4 = some m.cls := hown
  have hl0 := hl
  have g100 : ∀ (v4 : Int32) (H : Heap) (locs : List Loc) (ls : Array Slot), fX4_nextRoom_100 v4 = some w → va_P D vwCl [(b0, .inl (cI, 220, .inl S))] H → va_D A [(b0, .inl (cI, 220, .inl S))] → va_S A s.heap H locs → lv_has ls 6 [(4, .int v4)] → W p l e rmX4_nextRoom s m args below meth c H locs 0 0 Q (F0 m 100 ls []) := by
    intro  v4 H locs ls hf hP hD hS hl
    unfold fX4_nextRoom_100 at hf
    refine lv_iload hx hb dX4_nextRoom_100 (lv_at hl 0 rfl) ?_
    refine lv_goto (tgt := 106) hx hb dX4_nextRoom_102 (by decide) ?_
    cases hf
    exact rt_i hQ hx hb hr hlocks hP hD hS dX4_nextRoom_106
  have g95 : ∀ (v3 : Int32) (v4 : Int32) (H : Heap) (locs : List Loc) (ls : Array Slot), fX4_nextRoom_95 v3 v4 = some w → va_P D vwCl [(b0, .inl (cI, 220, .inl S))] H → va_D A [(b0, .inl (cI, 220, .inl S))] → va_S A s.heap H locs → lv_has ls 6 [(3, .int v3), (4, .int v4)] → W p l e rmX4_nextRoom s m args below meth c H locs 0 0 Q (F0 m 95 ls []) := by
    intro  v3 v4 H locs ls hf hP hD hS hl
    unfold fX4_nextRoom_95 at hf
    refine lv_iload_n hx hb dX4_nextRoom_95 rfl (lv_at hl 0 rfl) ?_
    refine lv_iconst (v := (-1)) hx hb dX4_nextRoom_96 (by decide) ?_
    refine lv_icmp_ne (tgt := 105) hx hb dX4_nextRoom_97 (by decide) (fun c_1 => ?_) (fun c_1 => ?_)
    · have hf := br_neg c_1 hf
      refine lv_iload_n hx hb dX4_nextRoom_105 rfl (lv_at hl 0 rfl) ?_
      cases hf
      exact rt_i hQ hx hb hr hlocks hP hD hS dX4_nextRoom_106
    · have hf := br_pos c_1 hf
      exact g100 v4 _ _ _ hf hP hD hS (lv_sub hl [1] rfl)
  have g82 : ∀ (v3 : Int32) (v4 : Int32) (z0 : Int32) (H : Heap) (locs : List Loc) (ls : Array Slot), fX4_nextRoom_82 v3 v4 z0 = some w → va_P D vwCl [(b0, .inl (cI, 220, .inl S))] H → va_D A [(b0, .inl (cI, 220, .inl S))] → va_S A s.heap H locs → lv_has ls 6 [(3, .int v3), (4, .int v4)] → W p l e rmX4_nextRoom s m args below meth c H locs 0 0 Q (F0 m 82 ls [.int z0]) := by
    intro  v3 v4 z0 H locs ls hf hP hD hS hl
    unfold fX4_nextRoom_82 at hf
    refine lv_istore (lv' := [(5, .int z0), (3, .int v3), (4, .int v4)]) hx hb dX4_nextRoom_82 hl (by decide) rfl (fun ls hl => ?_)
    refine lv_iload hx hb dX4_nextRoom_84 (lv_at hl 0 rfl) ?_
    refine lv_if_eq (tgt := 95) hx hb dX4_nextRoom_86 (by decide) (fun c_2 => ?_) (fun c_2 => ?_)
    · have hf := br_pos c_2 hf
      exact g95 v3 v4 _ _ _ hf hP hD hS (lv_sub hl [1, 2] rfl)
    · have hf := br_neg c_2 hf
      refine lv_iload hx hb dX4_nextRoom_89 (lv_at hl 2 rfl) ?_
      refine lv_iconst (v := (-1)) hx hb dX4_nextRoom_91 (by decide) ?_
      refine lv_icmp_ne (tgt := 100) hx hb dX4_nextRoom_92 (by decide) (fun c_3 => ?_) (fun c_3 => ?_)
      · have hf := br_neg c_3 hf
        exact g100 v4 _ _ _ hf hP hD hS (lv_sub hl [2] rfl)
      · have hf := br_pos c_3 hf
        exact g95 v3 v4 _ _ _ hf hP hD hS (lv_sub hl [1, 2] rfl)
  have g77 : ∀ (v3 : Int32) (v4 : Int32) (H : Heap) (locs : List Loc) (ls : Array Slot), fX4_nextRoom_77 v3 v4 = some w → va_P D vwCl [(b0, .inl (cI, 220, .inl S))] H → va_D A [(b0, .inl (cI, 220, .inl S))] → va_S A s.heap H locs → lv_has ls 6 [(3, .int v3), (4, .int v4)] → W p l e rmX4_nextRoom s m args below meth c H locs 0 0 Q (F0 m 77 ls []) := by
    intro  v3 v4 H locs ls hf hP hD hS hl
    unfold fX4_nextRoom_77 at hf
    refine lv_iconst (v := 1) hx hb dX4_nextRoom_77 (by decide) ?_
    refine lv_goto (tgt := 82) hx hb dX4_nextRoom_78 (by decide) ?_
    exact g82 v3 v4 1 _ _ _ hf hP hD hS (lv_sub hl [0, 1] rfl)
  have g81 : ∀ (v3 : Int32) (v4 : Int32) (H : Heap) (locs : List Loc) (ls : Array Slot), fX4_nextRoom_81 v3 v4 = some w → va_P D vwCl [(b0, .inl (cI, 220, .inl S))] H → va_D A [(b0, .inl (cI, 220, .inl S))] → va_S A s.heap H locs → lv_has ls 6 [(3, .int v3), (4, .int v4)] → W p l e rmX4_nextRoom s m args below meth c H locs 0 0 Q (F0 m 81 ls []) := by
    intro  v3 v4 H locs ls hf hP hD hS hl
    unfold fX4_nextRoom_81 at hf
    refine lv_iconst (v := 0) hx hb dX4_nextRoom_81 (by decide) ?_
    exact g82 v3 v4 0 _ _ _ hf hP hD hS (lv_sub hl [0, 1] rfl)
  have g62 : ∀ (v3 : Int32) (v4 : Int32) (H : Heap) (locs : List Loc) (ls : Array Slot), fX4_nextRoom_62 S v3 v4 = some w → va_P D vwCl [(b0, .inl (cI, 220, .inl S))] H → va_D A [(b0, .inl (cI, 220, .inl S))] → va_S A s.heap H locs → lv_has ls 6 [(0, .ref b0), (3, .int v3), (4, .int v4)] → W p l e rmX4_nextRoom s m args below meth c H locs 0 0 Q (F0 m 62 ls []) := by
    intro  v3 v4 H locs ls hf hP hD hS hl
    unfold fX4_nextRoom_62 at hf
    refine lv_iload hx hb dX4_nextRoom_62 (lv_at hl 2 rfl) ?_
    refine lv_iconst (v := (-1)) hx hb dX4_nextRoom_64 (by decide) ?_
    refine lv_icmp_eq (tgt := 81) hx hb dX4_nextRoom_65 (by decide) (fun c_4 => ?_) (fun c_4 => ?_)
    · have hf := br_pos c_4 hf
      exact g81 v3 v4 _ _ _ hf hP hD hS (lv_sub hl [1, 2] rfl)
    · have hf := br_neg c_4 hf
      refine lv_aload_n hx hb dX4_nextRoom_68 rfl (lv_at hl 0 rfl) ?_
      refine lv_iload hx hb dX4_nextRoom_69 (lv_at hl 2 rfl) ?_
      obtain ⟨q, h_5, hf⟩ := bd_some hf
      obtain ⟨r_6, rfl⟩ : ∃ z, z = q := ⟨_, rfl⟩
      try dsimp only at hf
      refine cl_i (ws := [(b0, .inl (cI, 220, .inl S))]) (wc := [(b0, .inl (cI, 220, .inl S))]) (wr := []) (w1 := [(b0, .inl (cI, 220, .inl S))]) (ws' := [(b0, .inl (cI, 220, .inl S))]) hP hD hS hA [0] [] [0] rfl rfl (by decide) (by decide) rfl (by decide) (va_runS (As := [.ref b0, .int v4]) (rest := []) ⟨hx, hb, hml, hown, hts⟩ (kX4_isFree l D cI cB cL b0 _ S v4 r_6 h_5) (va_cwS 2 hts gX4_nextRoom_X4_isFree rfl rfl rfl (by decide +kernel) ⟨Nat.le_of_ble_eq_true rfl, Nat.le_of_ble_eq_true rfl⟩) (pre_S hK hE hP hD hS hA [0] rfl (by decide)) rfl rfl hl.1 rfl (lv_room (Nat.le_of_ble_eq_true rfl)) dX4_nextRoom_71 ⟨Nat.le_of_ble_eq_true rfl, Nat.le_of_ble_eq_true rfl⟩) (fun H locs hP hD hS => ?_)
      refine lv_if_eq (tgt := 81) hx hb dX4_nextRoom_74 (by decide) (fun c_7 => ?_) (fun c_7 => ?_)
      · have hf := br_pos c_7 hf
        exact g81 v3 v4 _ _ _ hf hP hD hS (lv_sub hl [1, 2] rfl)
      · have hf := br_neg c_7 hf
        exact g77 v3 v4 _ _ _ hf hP hD hS (lv_sub hl [1, 2] rfl)
  unfold fX4_nextRoom at hf
  refine lv_aload_n hx hb dX4_nextRoom_0 rfl (lv_at hl 0 rfl) ?_
  refine lv_iload_n hx hb dX4_nextRoom_1 rfl (lv_at hl 1 rfl) ?_
  refine lv_bipush (v := 9) hx hb dX4_nextRoom_2 (by decide) ?_
  obtain ⟨q, h_8, hf⟩ := bd_some hf
  obtain ⟨r_9, rfl⟩ : ∃ z, z = q := ⟨_, rfl⟩
  try dsimp only at hf
  refine cl_i (ws := [(b0, .inl (cI, 220, .inl S))]) (wc := [(b0, .inl (cI, 220, .inl S))]) (wr := []) (w1 := [(b0, .inl (cI, 220, .inl S))]) (ws' := [(b0, .inl (cI, 220, .inl S))]) hP hD hS hA [0] [] [0] rfl rfl (by decide) (by decide) rfl (by decide) (va_runS (As := [.ref b0, .int p1, .int 9]) (rest := []) ⟨hx, hb, hml, hown, hts⟩ (kX4_of l D cI cB cL b0 _ S p1 9 r_9 h_8) (va_cwS 3 hts gX4_nextRoom_X4_of rfl rfl rfl (by decide +kernel) ⟨Nat.le_of_ble_eq_true rfl, Nat.le_of_ble_eq_true rfl⟩) (pre_S hK hE hP hD hS hA [0] rfl (by decide)) rfl rfl hl.1 rfl (lv_room (Nat.le_of_ble_eq_true rfl)) dX4_nextRoom_4 ⟨Nat.le_of_ble_eq_true rfl, Nat.le_of_ble_eq_true rfl⟩) (fun H locs hP hD hS => ?_)
  refine lv_istore_n (lv' := [(2, .int r_9), (0, .ref b0), (1, .int p1)]) hx hb dX4_nextRoom_7 rfl hl (by decide) rfl (fun ls hl => ?_)
  refine lv_iload_n hx hb dX4_nextRoom_8 rfl (lv_at hl 0 rfl) ?_
  refine lv_aload_n hx hb dX4_nextRoom_9 rfl (lv_at hl 1 rfl) ?_
  refine lv_iload_n hx hb dX4_nextRoom_10 rfl (lv_at hl 2 rfl) ?_
  refine lv_bipush (v := 7) hx hb dX4_nextRoom_11 (by decide) ?_
  obtain ⟨q, h_10, hf⟩ := bd_some hf
  obtain ⟨r_11, rfl⟩ : ∃ z, z = q := ⟨_, rfl⟩
  try dsimp only at hf
  refine cl_i (ws := [(b0, .inl (cI, 220, .inl S))]) (wc := [(b0, .inl (cI, 220, .inl S))]) (wr := []) (w1 := [(b0, .inl (cI, 220, .inl S))]) (ws' := [(b0, .inl (cI, 220, .inl S))]) hP hD hS hA [0] [] [0] rfl rfl (by decide) (by decide) rfl (by decide) (va_runS (As := [.ref b0, .int p1, .int 7]) (rest := [.int r_9]) ⟨hx, hb, hml, hown, hts⟩ (kX4_of l D cI cB cL b0 _ S p1 7 r_11 h_10) (va_cwS 3 hts gX4_nextRoom_X4_of rfl rfl rfl (by decide +kernel) ⟨Nat.le_of_ble_eq_true rfl, Nat.le_of_ble_eq_true rfl⟩) (pre_S hK hE hP hD hS hA [0] rfl (by decide)) rfl rfl hl.1 rfl (lv_room (Nat.le_of_ble_eq_true rfl)) dX4_nextRoom_13 ⟨Nat.le_of_ble_eq_true rfl, Nat.le_of_ble_eq_true rfl⟩) (fun H locs hP hD hS => ?_)
  refine lv_iconst (v := 1) hx hb dX4_nextRoom_16 (by decide) ?_
  obtain ⟨q, h_12, hf⟩ := bd_some hf
  obtain ⟨r_13, rfl⟩ : ∃ z, z = q := ⟨_, rfl⟩
  try dsimp only at hf
  refine cl_i (ws := [(b0, .inl (cI, 220, .inl S))]) (wc := []) (wr := [(b0, .inl (cI, 220, .inl S))]) (w1 := []) (ws' := [(b0, .inl (cI, 220, .inl S))]) hP hD hS hA [] [0] [0] rfl rfl (by decide) (by decide) rfl (by decide) (va_runS (As := [.int r_9, .int r_11, .int 1]) (rest := []) ⟨hx, hb, hml, hown, hts⟩ (kX4_along l D cI cB cL _ r_9 r_11 1 r_13 h_12) (va_cwS 3 hts gX4_nextRoom_X4_along rfl rfl rfl (by decide +kernel) ⟨Nat.le_of_ble_eq_true rfl, Nat.le_of_ble_eq_true rfl⟩) (pre_S hK hE hP hD hS hA [] rfl (by decide)) rfl rfl hl.1 rfl (lv_room (Nat.le_of_ble_eq_true rfl)) dX4_nextRoom_17 ⟨Nat.le_of_ble_eq_true rfl, Nat.le_of_ble_eq_true rfl⟩) (fun H locs hP hD hS => ?_)
  refine lv_istore_n (lv' := [(3, .int r_13), (2, .int r_9), (0, .ref b0), (1, .int p1)]) hx hb dX4_nextRoom_20 rfl hl (by decide) rfl (fun ls hl => ?_)
  refine lv_iload_n hx hb dX4_nextRoom_21 rfl (lv_at hl 1 rfl) ?_
  refine lv_aload_n hx hb dX4_nextRoom_22 rfl (lv_at hl 2 rfl) ?_
  refine lv_iload_n hx hb dX4_nextRoom_23 rfl (lv_at hl 3 rfl) ?_
  refine lv_bipush (v := 7) hx hb dX4_nextRoom_24 (by decide) ?_
  obtain ⟨q, h_14, hf⟩ := bd_some hf
  obtain ⟨r_15, rfl⟩ : ∃ z, z = q := ⟨_, rfl⟩
  try dsimp only at hf
  refine cl_i (ws := [(b0, .inl (cI, 220, .inl S))]) (wc := [(b0, .inl (cI, 220, .inl S))]) (wr := []) (w1 := [(b0, .inl (cI, 220, .inl S))]) (ws' := [(b0, .inl (cI, 220, .inl S))]) hP hD hS hA [0] [] [0] rfl rfl (by decide) (by decide) rfl (by decide) (va_runS (As := [.ref b0, .int p1, .int 7]) (rest := [.int r_9]) ⟨hx, hb, hml, hown, hts⟩ (kX4_of l D cI cB cL b0 _ S p1 7 r_15 h_14) (va_cwS 3 hts gX4_nextRoom_X4_of rfl rfl rfl (by decide +kernel) ⟨Nat.le_of_ble_eq_true rfl, Nat.le_of_ble_eq_true rfl⟩) (pre_S hK hE hP hD hS hA [0] rfl (by decide)) rfl rfl hl.1 rfl (lv_room (Nat.le_of_ble_eq_true rfl)) dX4_nextRoom_26 ⟨Nat.le_of_ble_eq_true rfl, Nat.le_of_ble_eq_true rfl⟩) (fun H locs hP hD hS => ?_)
  refine lv_iconst (v := 0) hx hb dX4_nextRoom_29 (by decide) ?_
  obtain ⟨q, h_16, hf⟩ := bd_some hf
  obtain ⟨r_17, rfl⟩ : ∃ z, z = q := ⟨_, rfl⟩
  try dsimp only at hf
  refine cl_i (ws := [(b0, .inl (cI, 220, .inl S))]) (wc := []) (wr := [(b0, .inl (cI, 220, .inl S))]) (w1 := []) (ws' := [(b0, .inl (cI, 220, .inl S))]) hP hD hS hA [] [0] [0] rfl rfl (by decide) (by decide) rfl (by decide) (va_runS (As := [.int r_9, .int r_15, .int 0]) (rest := []) ⟨hx, hb, hml, hown, hts⟩ (kX4_along l D cI cB cL _ r_9 r_15 0 r_17 h_16) (va_cwS 3 hts gX4_nextRoom_X4_along rfl rfl rfl (by decide +kernel) ⟨Nat.le_of_ble_eq_true rfl, Nat.le_of_ble_eq_true rfl⟩) (pre_S hK hE hP hD hS hA [] rfl (by decide)) rfl rfl hl.1 rfl (lv_room (Nat.le_of_ble_eq_true rfl)) dX4_nextRoom_30 ⟨Nat.le_of_ble_eq_true rfl, Nat.le_of_ble_eq_true rfl⟩) (fun H locs hP hD hS => ?_)
  refine lv_istore (lv' := [(4, .int r_17), (3, .int r_13), (2, .int r_9), (0, .ref b0), (1, .int p1)]) hx hb dX4_nextRoom_33 hl (by decide) rfl (fun ls hl => ?_)
  refine lv_aload_n hx hb dX4_nextRoom_35 rfl (lv_at hl 3 rfl) ?_
  refine lv_iconst (v := 2) hx hb dX4_nextRoom_36 (by decide) ?_
  refine x_iald hx hb hK hP 0 0 rfl rfl (vl rfl) 2 rfl dX4_nextRoom_37 ?_
  refine lv_iconst (v := 1) hx hb dX4_nextRoom_38 (by decide) ?_
  refine lv_icmp_eq (tgt := 77) hx hb dX4_nextRoom_39 (by decide) (fun c_18 => ?_) (fun c_18 => ?_)
  · have hf := br_pos c_18 hf
    exact g77 r_13 r_17 _ _ _ hf hP hD hS (lv_sub hl [1, 0] rfl)
  · have hf := br_neg c_18 hf
    refine lv_aload_n hx hb dX4_nextRoom_42 rfl (lv_at hl 3 rfl) ?_
    refine lv_iconst (v := 2) hx hb dX4_nextRoom_43 (by decide) ?_
    refine x_iald hx hb hK hP 0 0 rfl rfl (vl rfl) 2 rfl dX4_nextRoom_44 ?_
    refine lv_iconst (v := 2) hx hb dX4_nextRoom_45 (by decide) ?_
    refine lv_icmp_ne (tgt := 81) hx hb dX4_nextRoom_46 (by decide) (fun c_19 => ?_) (fun c_19 => ?_)
    · have hf := br_neg c_19 hf
      exact g81 r_13 r_17 _ _ _ hf hP hD hS (lv_sub hl [1, 0] rfl)
    · have hf := br_pos c_19 hf
      refine lv_iload_n hx hb dX4_nextRoom_49 rfl (lv_at hl 1 rfl) ?_
      refine lv_iconst (v := (-1)) hx hb dX4_nextRoom_50 (by decide) ?_
      refine lv_icmp_eq (tgt := 62) hx hb dX4_nextRoom_51 (by decide) (fun c_20 => ?_) (fun c_20 => ?_)
      · have hf := br_pos c_20 hf
        exact g62 r_13 r_17 _ _ _ hf hP hD hS (lv_sub hl [3, 1, 0] rfl)
      · have hf := br_neg c_20 hf
        refine lv_aload_n hx hb dX4_nextRoom_54 rfl (lv_at hl 3 rfl) ?_
        refine lv_iload_n hx hb dX4_nextRoom_55 rfl (lv_at hl 1 rfl) ?_
        obtain ⟨q, h_21, hf⟩ := bd_some hf
        obtain ⟨r_22, rfl⟩ : ∃ z, z = q := ⟨_, rfl⟩
        try dsimp only at hf
        refine cl_i (ws := [(b0, .inl (cI, 220, .inl S))]) (wc := [(b0, .inl (cI, 220, .inl S))]) (wr := []) (w1 := [(b0, .inl (cI, 220, .inl S))]) (ws' := [(b0, .inl (cI, 220, .inl S))]) hP hD hS hA [0] [] [0] rfl rfl (by decide) (by decide) rfl (by decide) (va_runS (As := [.ref b0, .int r_13]) (rest := []) ⟨hx, hb, hml, hown, hts⟩ (kX4_isFree l D cI cB cL b0 _ S r_13 r_22 h_21) (va_cwS 2 hts gX4_nextRoom_X4_isFree rfl rfl rfl (by decide +kernel) ⟨Nat.le_of_ble_eq_true rfl, Nat.le_of_ble_eq_true rfl⟩) (pre_S hK hE hP hD hS hA [0] rfl (by decide)) rfl rfl hl.1 rfl (lv_room (Nat.le_of_ble_eq_true rfl)) dX4_nextRoom_56 ⟨Nat.le_of_ble_eq_true rfl, Nat.le_of_ble_eq_true rfl⟩) (fun H locs hP hD hS => ?_)
        refine lv_if_ne (tgt := 81) hx hb dX4_nextRoom_59 (by decide) (fun c_23 => ?_) (fun c_23 => ?_)
        · have hf := br_neg c_23 hf
          exact g81 r_13 r_17 _ _ _ hf hP hD hS (lv_sub hl [1, 0] rfl)
        · have hf := br_pos c_23 hf
          exact g62 r_13 r_17 _ _ _ hf hP hD hS (lv_sub hl [3, 1, 0] rfl)
abbrev rmX4_eats : Room := ({ frames := 3, cells := 0, slots := 0, locals := 44 })
set_option maxHeartbeats 4000000 in
set_option maxRecDepth 100000 in
theorem kX4_eats (l : Launch) (D : va_G) (cI cB cL : ClassId) (b0 : Nat) (sz : Nat) (S : Nat → Int32) (p1 : Int32) (w : Int32) (hf : fX4_eats S p1 = some w) : Met l yX4_eats wsX4_eats rmX4_eats (mPc D (tyK cI cB cL) [.ref b0, .int p1] sz [(b0, .inl (cI, 220, .inl S))]) (mQi D w [(b0, .inl (cI, 220, .inl S))] (va_A [(b0, .inl (cI, 220, .inl S))] sz)) 0 0 (va_A [(b0, .inl (cI, 220, .inl S))] sz) := by
  refine m_of (Qf := mQi D w [(b0, .inl (cI, 220, .inl S))]) (cc := cX4_eats) (maxL := 2) (ret := (some .boolean)) (by decide) rfl (Nat.le_of_ble_eq_true rfl) ?_
  intro p e s m args below meth c A ls hsz hx hb hr hml hown hts hlocks hP hK hD hS hA hE hin hl Q hQ
  subst hsz
  have hl : lv_has ls 2 [(0, .ref b0), (1, .int p1)] := hl
  have hown : s.vm.findClass RX4 = some m.cls := hown
  unfold fX4_eats at hf
  refine lv_aload_n hx hb dX4_eats_0 rfl (lv_at hl 0 rfl) ?_
  refine lv_iload_n hx hb dX4_eats_1 rfl (lv_at hl 1 rfl) ?_
  refine lv_iconst (v := 1) hx hb dX4_eats_2 (by decide) ?_
  obtain ⟨q, h_1, hf⟩ := bd_some hf
  obtain ⟨r_2, rfl⟩ : ∃ z, z = q := ⟨_, rfl⟩
  try dsimp only at hf
  refine cl_i (ws := [(b0, .inl (cI, 220, .inl S))]) (wc := [(b0, .inl (cI, 220, .inl S))]) (wr := []) (w1 := [(b0, .inl (cI, 220, .inl S))]) (ws' := [(b0, .inl (cI, 220, .inl S))]) hP hD hS hA [0] [] [0] rfl rfl (by decide) (by decide) rfl (by decide) (va_runS (As := [.ref b0, .int p1, .int 1]) (rest := []) ⟨hx, hb, hml, hown, hts⟩ (kX4_isIn l D cI cB cL b0 _ S p1 1 r_2 h_1) (va_cwS 3 hts gX4_eats_X4_isIn rfl rfl rfl (by decide +kernel) ⟨Nat.le_of_ble_eq_true rfl, Nat.le_of_ble_eq_true rfl⟩) (pre_S hK hE hP hD hS hA [0] rfl (by decide)) rfl rfl hl.1 rfl (lv_room (Nat.le_of_ble_eq_true rfl)) dX4_eats_3 ⟨Nat.le_of_ble_eq_true rfl, Nat.le_of_ble_eq_true rfl⟩) (fun H locs hP hD hS => ?_)
  refine lv_if_eq (tgt := 30) hx hb dX4_eats_6 (by decide) (fun c_3 => ?_) (fun c_3 => ?_)
  · have hf := br_pos c_3 hf
    refine lv_iconst (v := 0) hx hb dX4_eats_30 (by decide) ?_
    cases hf
    exact rt_z hQ hx hb hr rfl hlocks hP hD hS dX4_eats_31
  · have hf := br_neg c_3 hf
    refine lv_aload_n hx hb dX4_eats_9 rfl (lv_at hl 0 rfl) ?_
    refine lv_iload_n hx hb dX4_eats_10 rfl (lv_at hl 1 rfl) ?_
    refine lv_bipush (v := 9) hx hb dX4_eats_11 (by decide) ?_
    obtain ⟨q, h_4, hf⟩ := bd_some hf
    obtain ⟨r_5, rfl⟩ : ∃ z, z = q := ⟨_, rfl⟩
    try dsimp only at hf
    refine cl_i (ws := [(b0, .inl (cI, 220, .inl S))]) (wc := [(b0, .inl (cI, 220, .inl S))]) (wr := []) (w1 := [(b0, .inl (cI, 220, .inl S))]) (ws' := [(b0, .inl (cI, 220, .inl S))]) hP hD hS hA [0] [] [0] rfl rfl (by decide) (by decide) rfl (by decide) (va_runS (As := [.ref b0, .int p1, .int 9]) (rest := []) ⟨hx, hb, hml, hown, hts⟩ (kX4_of l D cI cB cL b0 _ S p1 9 r_5 h_4) (va_cwS 3 hts gX4_eats_X4_of rfl rfl rfl (by decide +kernel) ⟨Nat.le_of_ble_eq_true rfl, Nat.le_of_ble_eq_true rfl⟩) (pre_S hK hE hP hD hS hA [0] rfl (by decide)) rfl rfl hl.1 rfl (lv_room (Nat.le_of_ble_eq_true rfl)) dX4_eats_13 ⟨Nat.le_of_ble_eq_true rfl, Nat.le_of_ble_eq_true rfl⟩) (fun H locs hP hD hS => ?_)
    refine lv_aload_n hx hb dX4_eats_16 rfl (lv_at hl 0 rfl) ?_
    refine lv_iload_n hx hb dX4_eats_17 rfl (lv_at hl 1 rfl) ?_
    refine lv_bipush (v := 7) hx hb dX4_eats_18 (by decide) ?_
    obtain ⟨q, h_6, hf⟩ := bd_some hf
    obtain ⟨r_7, rfl⟩ : ∃ z, z = q := ⟨_, rfl⟩
    try dsimp only at hf
    refine cl_i (ws := [(b0, .inl (cI, 220, .inl S))]) (wc := [(b0, .inl (cI, 220, .inl S))]) (wr := []) (w1 := [(b0, .inl (cI, 220, .inl S))]) (ws' := [(b0, .inl (cI, 220, .inl S))]) hP hD hS hA [0] [] [0] rfl rfl (by decide) (by decide) rfl (by decide) (va_runS (As := [.ref b0, .int p1, .int 7]) (rest := [.int r_5]) ⟨hx, hb, hml, hown, hts⟩ (kX4_of l D cI cB cL b0 _ S p1 7 r_7 h_6) (va_cwS 3 hts gX4_eats_X4_of rfl rfl rfl (by decide +kernel) ⟨Nat.le_of_ble_eq_true rfl, Nat.le_of_ble_eq_true rfl⟩) (pre_S hK hE hP hD hS hA [0] rfl (by decide)) rfl rfl hl.1 rfl (lv_room (Nat.le_of_ble_eq_true rfl)) dX4_eats_20 ⟨Nat.le_of_ble_eq_true rfl, Nat.le_of_ble_eq_true rfl⟩) (fun H locs hP hD hS => ?_)
    refine lv_icmp_ne (tgt := 30) hx hb dX4_eats_23 (by decide) (fun c_8 => ?_) (fun c_8 => ?_)
    · have hf := br_neg c_8 hf
      refine lv_iconst (v := 0) hx hb dX4_eats_30 (by decide) ?_
      cases hf
      exact rt_z hQ hx hb hr rfl hlocks hP hD hS dX4_eats_31
    · have hf := br_pos c_8 hf
      refine lv_iconst (v := 1) hx hb dX4_eats_26 (by decide) ?_
      refine lv_goto (tgt := 31) hx hb dX4_eats_27 (by decide) ?_
      cases hf
      exact rt_z hQ hx hb hr rfl hlocks hP hD hS dX4_eats_31
abbrev rmX4_wants : Room := ({ frames := 5, cells := 0, slots := 0, locals := 91 })
set_option maxHeartbeats 4000000 in
set_option maxRecDepth 100000 in
theorem kX4_wants (l : Launch) (D : va_G) (cI cB cL : ClassId) (b0 : Nat) (sz : Nat) (S : Nat → Int32) (p1 : Int32) (w : Int32) (hf : fX4_wants S p1 = some w) : Met l yX4_wants wsX4_wants rmX4_wants (mPc D (tyK cI cB cL) [.ref b0, .int p1] sz [(b0, .inl (cI, 220, .inl S))]) (mQi D w [(b0, .inl (cI, 220, .inl S))] (va_A [(b0, .inl (cI, 220, .inl S))] sz)) 0 0 (va_A [(b0, .inl (cI, 220, .inl S))] sz) := by
  refine m_of (Qf := mQi D w [(b0, .inl (cI, 220, .inl S))]) (cc := cX4_wants) (maxL := 2) (ret := (some .int)) (by decide) rfl (Nat.le_of_ble_eq_true rfl) ?_
  intro p e s m args below meth c A ls hsz hx hb hr hml hown hts hlocks hP hK hD hS hA hE hin hl Q hQ
  subst hsz
  have hl : lv_has ls 2 [(0, .ref b0), (1, .int p1)] := hl
  have hown : s.vm.findClass RX4 = some m.cls := hown
  unfold fX4_wants at hf
  refine lv_aload_n hx hb dX4_wants_0 rfl (lv_at hl 0 rfl) ?_
  refine lv_iload_n hx hb dX4_wants_1 rfl (lv_at hl 1 rfl) ?_
  refine lv_iconst (v := 0) hx hb dX4_wants_2 (by decide) ?_
  obtain ⟨q, h_1, hf⟩ := bd_some hf
  obtain ⟨r_2, rfl⟩ : ∃ z, z = q := ⟨_, rfl⟩
  try dsimp only at hf
  refine cl_i (ws := [(b0, .inl (cI, 220, .inl S))]) (wc := [(b0, .inl (cI, 220, .inl S))]) (wr := []) (w1 := [(b0, .inl (cI, 220, .inl S))]) (ws' := [(b0, .inl (cI, 220, .inl S))]) hP hD hS hA [0] [] [0] rfl rfl (by decide) (by decide) rfl (by decide) (va_runS (As := [.ref b0, .int p1, .int 0]) (rest := []) ⟨hx, hb, hml, hown, hts⟩ (kX4_isIn l D cI cB cL b0 _ S p1 0 r_2 h_1) (va_cwS 3 hts gX4_wants_X4_isIn rfl rfl rfl (by decide +kernel) ⟨Nat.le_of_ble_eq_true rfl, Nat.le_of_ble_eq_true rfl⟩) (pre_S hK hE hP hD hS hA [0] rfl (by decide)) rfl rfl hl.1 rfl (lv_room (Nat.le_of_ble_eq_true rfl)) dX4_wants_3 ⟨Nat.le_of_ble_eq_true rfl, Nat.le_of_ble_eq_true rfl⟩) (fun H locs hP hD hS => ?_)
  refine lv_if_eq (tgt := 19) hx hb dX4_wants_6 (by decide) (fun c_3 => ?_) (fun c_3 => ?_)
  · have hf := br_pos c_3 hf
    refine lv_aload_n hx hb dX4_wants_19 rfl (lv_at hl 0 rfl) ?_
    refine lv_iload_n hx hb dX4_wants_20 rfl (lv_at hl 1 rfl) ?_
    refine lv_iconst (v := 1) hx hb dX4_wants_21 (by decide) ?_
    obtain ⟨q, h_4, hf⟩ := bd_some hf
    obtain ⟨r_5, rfl⟩ : ∃ z, z = q := ⟨_, rfl⟩
    try dsimp only at hf
    refine cl_i (ws := [(b0, .inl (cI, 220, .inl S))]) (wc := [(b0, .inl (cI, 220, .inl S))]) (wr := []) (w1 := [(b0, .inl (cI, 220, .inl S))]) (ws' := [(b0, .inl (cI, 220, .inl S))]) hP hD hS hA [0] [] [0] rfl rfl (by decide) (by decide) rfl (by decide) (va_runS (As := [.ref b0, .int p1, .int 1]) (rest := []) ⟨hx, hb, hml, hown, hts⟩ (kX4_isIn l D cI cB cL b0 _ S p1 1 r_5 h_4) (va_cwS 3 hts gX4_wants_X4_isIn rfl rfl rfl (by decide +kernel) ⟨Nat.le_of_ble_eq_true rfl, Nat.le_of_ble_eq_true rfl⟩) (pre_S hK hE hP hD hS hA [0] rfl (by decide)) rfl rfl hl.1 rfl (lv_room (Nat.le_of_ble_eq_true rfl)) dX4_wants_22 ⟨Nat.le_of_ble_eq_true rfl, Nat.le_of_ble_eq_true rfl⟩) (fun H locs hP hD hS => ?_)
    refine lv_if_eq (tgt := 44) hx hb dX4_wants_25 (by decide) (fun c_6 => ?_) (fun c_6 => ?_)
    · have hf := br_pos c_6 hf
      refine lv_iconst (v := (-1)) hx hb dX4_wants_44 (by decide) ?_
      cases hf
      exact rt_i hQ hx hb hr hlocks hP hD hS dX4_wants_45
    · have hf := br_neg c_6 hf
      refine lv_aload_n hx hb dX4_wants_28 rfl (lv_at hl 0 rfl) ?_
      refine lv_iload_n hx hb dX4_wants_29 rfl (lv_at hl 1 rfl) ?_
      obtain ⟨q, h_7, hf⟩ := bd_some hf
      obtain ⟨r_8, rfl⟩ : ∃ z, z = q := ⟨_, rfl⟩
      try dsimp only at hf
      refine cl_i (ws := [(b0, .inl (cI, 220, .inl S))]) (wc := [(b0, .inl (cI, 220, .inl S))]) (wr := []) (w1 := [(b0, .inl (cI, 220, .inl S))]) (ws' := [(b0, .inl (cI, 220, .inl S))]) hP hD hS hA [0] [] [0] rfl rfl (by decide) (by decide) rfl (by decide) (va_runS (As := [.ref b0, .int p1]) (rest := []) ⟨hx, hb, hml, hown, hts⟩ (kX4_eats l D cI cB cL b0 _ S p1 r_8 h_7) (va_cwS 2 hts gX4_wants_X4_eats rfl rfl rfl (by decide +kernel) ⟨Nat.le_of_ble_eq_true rfl, Nat.le_of_ble_eq_true rfl⟩) (pre_S hK hE hP hD hS hA [0] rfl (by decide)) rfl rfl hl.1 rfl (lv_room (Nat.le_of_ble_eq_true rfl)) dX4_wants_30 ⟨Nat.le_of_ble_eq_true rfl, Nat.le_of_ble_eq_true rfl⟩) (fun H locs hP hD hS => ?_)
      refine lv_if_ne (tgt := 44) hx hb dX4_wants_33 (by decide) (fun c_9 => ?_) (fun c_9 => ?_)
      · have hf := br_neg c_9 hf
        refine lv_iconst (v := (-1)) hx hb dX4_wants_44 (by decide) ?_
        cases hf
        exact rt_i hQ hx hb hr hlocks hP hD hS dX4_wants_45
      · have hf := br_pos c_9 hf
        refine lv_aload_n hx hb dX4_wants_36 rfl (lv_at hl 0 rfl) ?_
        refine lv_iload_n hx hb dX4_wants_37 rfl (lv_at hl 1 rfl) ?_
        obtain ⟨q, h_10, hf⟩ := bd_some hf
        obtain ⟨r_11, rfl⟩ : ∃ z, z = q := ⟨_, rfl⟩
        try dsimp only at hf
        refine cl_i (ws := [(b0, .inl (cI, 220, .inl S))]) (wc := [(b0, .inl (cI, 220, .inl S))]) (wr := []) (w1 := [(b0, .inl (cI, 220, .inl S))]) (ws' := [(b0, .inl (cI, 220, .inl S))]) hP hD hS hA [0] [] [0] rfl rfl (by decide) (by decide) rfl (by decide) (va_runS (As := [.ref b0, .int p1]) (rest := []) ⟨hx, hb, hml, hown, hts⟩ (kX4_nextRoom l D cI cB cL b0 _ S p1 r_11 h_10) (va_cwS 2 hts gX4_wants_X4_nextRoom rfl rfl rfl (by decide +kernel) ⟨Nat.le_of_ble_eq_true rfl, Nat.le_of_ble_eq_true rfl⟩) (pre_S hK hE hP hD hS hA [0] rfl (by decide)) rfl rfl hl.1 rfl (lv_room (Nat.le_of_ble_eq_true rfl)) dX4_wants_38 ⟨Nat.le_of_ble_eq_true rfl, Nat.le_of_ble_eq_true rfl⟩) (fun H locs hP hD hS => ?_)
        refine lv_goto (tgt := 45) hx hb dX4_wants_41 (by decide) ?_
        cases hf
        exact rt_i hQ hx hb hr hlocks hP hD hS dX4_wants_45
  · have hf := br_neg c_3 hf
    refine lv_aload_n hx hb dX4_wants_9 rfl (lv_at hl 0 rfl) ?_
    refine lv_iload_n hx hb dX4_wants_10 rfl (lv_at hl 1 rfl) ?_
    refine lv_bipush (v := 6) hx hb dX4_wants_11 (by decide) ?_
    obtain ⟨q, h_12, hf⟩ := bd_some hf
    obtain ⟨r_13, rfl⟩ : ∃ z, z = q := ⟨_, rfl⟩
    try dsimp only at hf
    refine cl_i (ws := [(b0, .inl (cI, 220, .inl S))]) (wc := [(b0, .inl (cI, 220, .inl S))]) (wr := []) (w1 := [(b0, .inl (cI, 220, .inl S))]) (ws' := [(b0, .inl (cI, 220, .inl S))]) hP hD hS hA [0] [] [0] rfl rfl (by decide) (by decide) rfl (by decide) (va_runS (As := [.ref b0, .int p1, .int 6]) (rest := []) ⟨hx, hb, hml, hown, hts⟩ (kX4_of l D cI cB cL b0 _ S p1 6 r_13 h_12) (va_cwS 3 hts gX4_wants_X4_of rfl rfl rfl (by decide +kernel) ⟨Nat.le_of_ble_eq_true rfl, Nat.le_of_ble_eq_true rfl⟩) (pre_S hK hE hP hD hS hA [0] rfl (by decide)) rfl rfl hl.1 rfl (lv_room (Nat.le_of_ble_eq_true rfl)) dX4_wants_13 ⟨Nat.le_of_ble_eq_true rfl, Nat.le_of_ble_eq_true rfl⟩) (fun H locs hP hD hS => ?_)
    refine lv_goto (tgt := 45) hx hb dX4_wants_16 (by decide) ?_
    cases hf
    exact rt_i hQ hx hb hr hlocks hP hD hS dX4_wants_45
abbrev rmX4_blockedBy : Room := ({ frames := 6, cells := 0, slots := 0, locals := 112 })
set_option maxHeartbeats 4000000 in
set_option maxRecDepth 100000 in
theorem kX4_blockedBy (l : Launch) (D : va_G) (cI cB cL : ClassId) (b0 : Nat) (sz : Nat) (S : Nat → Int32) (p1 : Int32) (w : Int32) (hf : fX4_blockedBy S p1 = some w) : Met l yX4_blockedBy wsX4_blockedBy rmX4_blockedBy (mPc D (tyK cI cB cL) [.ref b0, .int p1] sz [(b0, .inl (cI, 220, .inl S))]) (mQi D w [(b0, .inl (cI, 220, .inl S))] (va_A [(b0, .inl (cI, 220, .inl S))] sz)) 0 0 (va_A [(b0, .inl (cI, 220, .inl S))] sz) := by
  refine m_of (Qf := mQi D w [(b0, .inl (cI, 220, .inl S))]) (cc := cX4_blockedBy) (maxL := 3) (ret := (some .int)) (by decide) rfl (Nat.le_of_ble_eq_true rfl) ?_
  intro p e s m args below meth c A ls hsz hx hb hr hml hown hts hlocks hP hK hD hS hA hE hin hl Q hQ
  subst hsz
  have hl : lv_has ls 3 [(0, .ref b0), (1, .int p1)] := hl
  have hown : s.vm.findClass RX4 = some m.cls := hown
  unfold fX4_blockedBy at hf
  refine lv_aload_n hx hb dX4_blockedBy_0 rfl (lv_at hl 0 rfl) ?_
  refine lv_iload_n hx hb dX4_blockedBy_1 rfl (lv_at hl 1 rfl) ?_
  obtain ⟨q, h_1, hf⟩ := bd_some hf
  obtain ⟨r_2, rfl⟩ : ∃ z, z = q := ⟨_, rfl⟩
  try dsimp only at hf
  refine cl_i (ws := [(b0, .inl (cI, 220, .inl S))]) (wc := [(b0, .inl (cI, 220, .inl S))]) (wr := []) (w1 := [(b0, .inl (cI, 220, .inl S))]) (ws' := [(b0, .inl (cI, 220, .inl S))]) hP hD hS hA [0] [] [0] rfl rfl (by decide) (by decide) rfl (by decide) (va_runS (As := [.ref b0, .int p1]) (rest := []) ⟨hx, hb, hml, hown, hts⟩ (kX4_wants l D cI cB cL b0 _ S p1 r_2 h_1) (va_cwS 2 hts gX4_blockedBy_X4_wants rfl rfl rfl (by decide +kernel) ⟨Nat.le_of_ble_eq_true rfl, Nat.le_of_ble_eq_true rfl⟩) (pre_S hK hE hP hD hS hA [0] rfl (by decide)) rfl rfl hl.1 rfl (lv_room (Nat.le_of_ble_eq_true rfl)) dX4_blockedBy_2 ⟨Nat.le_of_ble_eq_true rfl, Nat.le_of_ble_eq_true rfl⟩) (fun H locs hP hD hS => ?_)
  refine lv_istore_n (lv' := [(2, .int r_2), (0, .ref b0), (1, .int p1)]) hx hb dX4_blockedBy_5 rfl hl (by decide) rfl (fun ls hl => ?_)
  refine lv_iload_n hx hb dX4_blockedBy_6 rfl (lv_at hl 0 rfl) ?_
  refine lv_iconst (v := (-1)) hx hb dX4_blockedBy_7 (by decide) ?_
  refine lv_icmp_ne (tgt := 15) hx hb dX4_blockedBy_8 (by decide) (fun c_3 => ?_) (fun c_3 => ?_)
  · have hf := br_neg c_3 hf
    refine lv_aload_n hx hb dX4_blockedBy_15 rfl (lv_at hl 1 rfl) ?_
    refine lv_iload_n hx hb dX4_blockedBy_16 rfl (lv_at hl 0 rfl) ?_
    obtain ⟨q, h_4, hf⟩ := bd_some hf
    obtain ⟨r_5, rfl⟩ : ∃ z, z = q := ⟨_, rfl⟩
    try dsimp only at hf
    refine cl_i (ws := [(b0, .inl (cI, 220, .inl S))]) (wc := [(b0, .inl (cI, 220, .inl S))]) (wr := []) (w1 := [(b0, .inl (cI, 220, .inl S))]) (ws' := [(b0, .inl (cI, 220, .inl S))]) hP hD hS hA [0] [] [0] rfl rfl (by decide) (by decide) rfl (by decide) (va_runS (As := [.ref b0, .int r_2]) (rest := []) ⟨hx, hb, hml, hown, hts⟩ (kX4_takenBy l D cI cB cL b0 _ S r_2 r_5 h_4) (va_cwS 2 hts gX4_blockedBy_X4_takenBy rfl rfl rfl (by decide +kernel) ⟨Nat.le_of_ble_eq_true rfl, Nat.le_of_ble_eq_true rfl⟩) (pre_S hK hE hP hD hS hA [0] rfl (by decide)) rfl rfl hl.1 rfl (lv_room (Nat.le_of_ble_eq_true rfl)) dX4_blockedBy_17 ⟨Nat.le_of_ble_eq_true rfl, Nat.le_of_ble_eq_true rfl⟩) (fun H locs hP hD hS => ?_)
    cases hf
    exact rt_i hQ hx hb hr hlocks hP hD hS dX4_blockedBy_20
  · have hf := br_pos c_3 hf
    refine lv_iconst (v := (-1)) hx hb dX4_blockedBy_11 (by decide) ?_
    refine lv_goto (tgt := 20) hx hb dX4_blockedBy_12 (by decide) ?_
    cases hf
    exact rt_i hQ hx hb hr hlocks hP hD hS dX4_blockedBy_20
abbrev rmX4_waits : Room := ({ frames := 2, cells := 0, slots := 0, locals := 23 })
set_option maxHeartbeats 4000000 in
set_option maxRecDepth 100000 in
theorem kX4_waits (l : Launch) (D : va_G) (cI cB cL : ClassId) (b0 : Nat) (sz : Nat) (S : Nat → Int32) (p1 : Int32) (S' : Nat → Int32) (hf : fX4_waits S p1 = some S') : Met l yX4_waits wsX4_waits rmX4_waits (mPc D (tyK cI cB cL) [.ref b0, .int p1] sz [(b0, .inl (cI, 220, .inl S))]) (mQv D [(b0, .inl (cI, 220, .inl S'))] (va_A [(b0, .inl (cI, 220, .inl S))] sz)) 0 0 (va_A [(b0, .inl (cI, 220, .inl S))] sz) := by
  refine m_of (Qf := mQv D [(b0, .inl (cI, 220, .inl S'))]) (cc := cX4_waits) (maxL := 2) (ret := none) (by decide) rfl (Nat.le_of_ble_eq_true rfl) ?_
  intro p e s m args below meth c A ls hsz hx hb hr hml hown hts hlocks hP hK hD hS hA hE hin hl Q hQ
  subst hsz
  have hl : lv_has ls 2 [(0, .ref b0), (1, .int p1)] := hl
  have hown : s.vm.findClass RX4 = some m.cls := hown
  unfold fX4_waits at hf
  refine lv_aload_n hx hb dX4_waits_0 rfl (lv_at hl 0 rfl) ?_
  refine lv_iload_n hx hb dX4_waits_1 rfl (lv_at hl 1 rfl) ?_
  refine lv_iconst (v := 4) hx hb dX4_waits_2 (by decide) ?_
  refine lv_aload_n hx hb dX4_waits_3 rfl (lv_at hl 0 rfl) ?_
  refine lv_iload_n hx hb dX4_waits_4 rfl (lv_at hl 1 rfl) ?_
  refine lv_iconst (v := 4) hx hb dX4_waits_5 (by decide) ?_
  obtain ⟨q, h_1, hf⟩ := bd_some hf
  obtain ⟨r_2, rfl⟩ : ∃ z, z = q := ⟨_, rfl⟩
  try dsimp only at hf
  refine cl_i (ws := [(b0, .inl (cI, 220, .inl S))]) (wc := [(b0, .inl (cI, 220, .inl S))]) (wr := []) (w1 := [(b0, .inl (cI, 220, .inl S))]) (ws' := [(b0, .inl (cI, 220, .inl S))]) hP hD hS hA [0] [] [0] rfl rfl (by decide) (by decide) rfl (by decide) (va_runS (As := [.ref b0, .int p1, .int 4]) (rest := [.int 4, .int p1, .ref b0]) ⟨hx, hb, hml, hown, hts⟩ (kX4_of l D cI cB cL b0 _ S p1 4 r_2 h_1) (va_cwS 3 hts gX4_waits_X4_of rfl rfl rfl (by decide +kernel) ⟨Nat.le_of_ble_eq_true rfl, Nat.le_of_ble_eq_true rfl⟩) (pre_S hK hE hP hD hS hA [0] rfl (by decide)) rfl rfl hl.1 rfl (lv_room (Nat.le_of_ble_eq_true rfl)) dX4_waits_6 ⟨Nat.le_of_ble_eq_true rfl, Nat.le_of_ble_eq_true rfl⟩) (fun H locs hP hD hS => ?_)
  refine lv_iconst (v := 1) hx hb dX4_waits_9 (by decide) ?_
  refine lv_iadd hx hb dX4_waits_10 ?_
  obtain ⟨q, h_3, hf⟩ := bd_some hf
  obtain ⟨S_4, rfl⟩ : ∃ z, z = q := ⟨_, rfl⟩
  try dsimp only at hf
  refine cl_v (ws := [(b0, .inl (cI, 220, .inl S))]) (wc := [(b0, .inl (cI, 220, .inl S))]) (wr := []) (w1 := [(b0, .inl (cI, 220, .inl S_4))]) (ws' := [(b0, .inl (cI, 220, .inl S_4))]) hP hD hS hA [0] [] [0] rfl rfl (by decide) (by decide) rfl (by decide) (va_runS (As := [.ref b0, .int p1, .int 4, .int (r_2 + 1)]) (rest := []) ⟨hx, hb, hml, hown, hts⟩ (kX4_lay l D cI cB cL b0 _ S p1 4 (r_2 + 1) S_4 h_3) (va_cwS 4 hts gX4_waits_X4_lay rfl rfl rfl (by decide +kernel) ⟨Nat.le_of_ble_eq_true rfl, Nat.le_of_ble_eq_true rfl⟩) (pre_S hK hE hP hD hS hA [0] rfl (by decide)) rfl rfl hl.1 rfl (lv_room (Nat.le_of_ble_eq_true rfl)) dX4_waits_11 ⟨Nat.le_of_ble_eq_true rfl, Nat.le_of_ble_eq_true rfl⟩) (fun H locs hP hD hS => ?_)
  refine lv_aload_n hx hb dX4_waits_14 rfl (lv_at hl 0 rfl) ?_
  refine lv_iconst (v := 3) hx hb dX4_waits_15 (by decide) ?_
  refine lv_dup2_11 hx hb dX4_waits_16 rfl rfl ?_
  refine x_iald hx hb hK hP 0 0 rfl rfl (vl rfl) 3 rfl dX4_waits_17 ?_
  refine lv_iconst (v := 1) hx hb dX4_waits_18 (by decide) ?_
  refine lv_iadd hx hb dX4_waits_19 ?_
  refine x_iast hx hb hK hP hD hS 0 0 rfl rfl (vl rfl) 3 rfl [(b0, .inl (cI, 220, .inl (upd S_4 3 ((S_4 3) + 1))))] rfl dX4_waits_20 (fun H locs hP hD hS => ?_)
  cases hf
  exact rt_v hQ hx hb hr hlocks hP hD hS dX4_waits_21
abbrev rmX4_goes : Room := ({ frames := 2, cells := 0, slots := 0, locals := 23 })
set_option maxHeartbeats 4000000 in
set_option maxRecDepth 100000 in
theorem kX4_goes (l : Launch) (D : va_G) (cI cB cL : ClassId) (b0 : Nat) (sz : Nat) (S : Nat → Int32) (p1 : Int32) (p2 : Int32) (S' : Nat → Int32) (hf : fX4_goes S p1 p2 = some S') : Met l yX4_goes wsX4_goes rmX4_goes (mPc D (tyK cI cB cL) [.ref b0, .int p1, .int p2] sz [(b0, .inl (cI, 220, .inl S))]) (mQv D [(b0, .inl (cI, 220, .inl S'))] (va_A [(b0, .inl (cI, 220, .inl S))] sz)) 0 0 (va_A [(b0, .inl (cI, 220, .inl S))] sz) := by
  refine m_of (Qf := mQv D [(b0, .inl (cI, 220, .inl S'))]) (cc := cX4_goes) (maxL := 4) (ret := none) (by decide) rfl (Nat.le_of_ble_eq_true rfl) ?_
  intro p e s m args below meth c A ls hsz hx hb hr hml hown hts hlocks hP hK hD hS hA hE hin hl Q hQ
  subst hsz
  have hl : lv_has ls 4 [(0, .ref b0), (1, .int p1), (2, .int p2)] := hl
  have hown : s.vm.findClass RX4 = some m.cls := hown
  have hl0 := hl
  have g23 : ∀ (n : Nat) (v3 : Int32) (S : Nat → Int32) (H : Heap) (locs : List Loc) (ls : Array Slot), fX4_goes_23 p1 p2 n v3 S = some S' → va_P D vwCl [(b0, .inl (cI, 220, .inl S))] H → va_D A [(b0, .inl (cI, 220, .inl S))] → va_S A s.heap H locs → lv_has ls 4 [(0, .ref b0), (1, .int p1), (2, .int p2), (3, .int v3)] → W p l e rmX4_goes s m args below meth c H locs 0 0 Q (F0 m 23 ls []) := by
    intro  n
    induction n with
    | zero =>
      intro v3 S H locs ls hf
      exact absurd hf (by rw [fX4_goes_23]; simp)
    | succ n ih =>
      intro v3 S H locs ls hf hP hD hS hl
      rw [fX4_goes_23] at hf
      refine lv_iload_n hx hb dX4_goes_23 rfl (lv_at hl 3 rfl) ?_
      refine lv_if_le (tgt := 53) hx hb dX4_goes_24 (by decide) (fun c_1 => ?_) (fun c_1 => ?_)
      · have hf := br_pos c_1 hf
        refine lv_aload_n hx hb dX4_goes_53 rfl (lv_at hl 0 rfl) ?_
        refine lv_iload_n hx hb dX4_goes_54 rfl (lv_at hl 1 rfl) ?_
        refine lv_bipush (v := 9) hx hb dX4_goes_55 (by decide) ?_
        refine lv_iload_n hx hb dX4_goes_57 rfl (lv_at hl 2 rfl) ?_
        obtain ⟨q, h_2, hf⟩ := bd_some hf
        obtain ⟨S_3, rfl⟩ : ∃ z, z = q := ⟨_, rfl⟩
        try dsimp only at hf
        refine cl_v (ws := [(b0, .inl (cI, 220, .inl S))]) (wc := [(b0, .inl (cI, 220, .inl S))]) (wr := []) (w1 := [(b0, .inl (cI, 220, .inl S_3))]) (ws' := [(b0, .inl (cI, 220, .inl S_3))]) hP hD hS hA [0] [] [0] rfl rfl (by decide) (by decide) rfl (by decide) (va_runS (As := [.ref b0, .int p1, .int 9, .int p2]) (rest := []) ⟨hx, hb, hml, hown, hts⟩ (kX4_lay l D cI cB cL b0 _ S p1 9 p2 S_3 h_2) (va_cwS 4 hts gX4_goes_X4_lay rfl rfl rfl (by decide +kernel) ⟨Nat.le_of_ble_eq_true rfl, Nat.le_of_ble_eq_true rfl⟩) (pre_S hK hE hP hD hS hA [0] rfl (by decide)) rfl rfl hl.1 rfl (lv_room (Nat.le_of_ble_eq_true rfl)) dX4_goes_58 ⟨Nat.le_of_ble_eq_true rfl, Nat.le_of_ble_eq_true rfl⟩) (fun H locs hP hD hS => ?_)
        refine lv_aload_n hx hb dX4_goes_61 rfl (lv_at hl 0 rfl) ?_
        refine lv_iload_n hx hb dX4_goes_62 rfl (lv_at hl 1 rfl) ?_
        refine lv_iconst (v := 2) hx hb dX4_goes_63 (by decide) ?_
        obtain ⟨q, h_4, hf⟩ := bd_some hf
        obtain ⟨r_5, rfl⟩ : ∃ z, z = q := ⟨_, rfl⟩
        try dsimp only at hf
        refine cl_i (ws := [(b0, .inl (cI, 220, .inl S_3))]) (wc := [(b0, .inl (cI, 220, .inl S_3))]) (wr := []) (w1 := [(b0, .inl (cI, 220, .inl S_3))]) (ws' := [(b0, .inl (cI, 220, .inl S_3))]) hP hD hS hA [0] [] [0] rfl rfl (by decide) (by decide) rfl (by decide) (va_runS (As := [.ref b0, .int p1, .int 2]) (rest := []) ⟨hx, hb, hml, hown, hts⟩ (kX4_of l D cI cB cL b0 _ S_3 p1 2 r_5 h_4) (va_cwS 3 hts gX4_goes_X4_of rfl rfl rfl (by decide +kernel) ⟨Nat.le_of_ble_eq_true rfl, Nat.le_of_ble_eq_true rfl⟩) (pre_S hK hE hP hD hS hA [0] rfl (by decide)) rfl rfl hl.1 rfl (lv_room (Nat.le_of_ble_eq_true rfl)) dX4_goes_64 ⟨Nat.le_of_ble_eq_true rfl, Nat.le_of_ble_eq_true rfl⟩) (fun H locs hP hD hS => ?_)
        refine lv_if_le (tgt := 98) hx hb dX4_goes_67 (by decide) (fun c_6 => ?_) (fun c_6 => ?_)
        · have hf := br_pos c_6 hf
          cases hf
          exact rt_v hQ hx hb hr hlocks hP hD hS dX4_goes_98
        · have hf := br_neg c_6 hf
          refine lv_aload_n hx hb dX4_goes_70 rfl (lv_at hl 0 rfl) ?_
          refine lv_iload_n hx hb dX4_goes_71 rfl (lv_at hl 1 rfl) ?_
          refine lv_iconst (v := 2) hx hb dX4_goes_72 (by decide) ?_
          refine lv_aload_n hx hb dX4_goes_73 rfl (lv_at hl 0 rfl) ?_
          refine lv_iload_n hx hb dX4_goes_74 rfl (lv_at hl 1 rfl) ?_
          refine lv_iconst (v := 2) hx hb dX4_goes_75 (by decide) ?_
          obtain ⟨q, h_7, hf⟩ := bd_some hf
          obtain ⟨r_8, rfl⟩ : ∃ z, z = q := ⟨_, rfl⟩
          try dsimp only at hf
          refine cl_i (ws := [(b0, .inl (cI, 220, .inl S_3))]) (wc := [(b0, .inl (cI, 220, .inl S_3))]) (wr := []) (w1 := [(b0, .inl (cI, 220, .inl S_3))]) (ws' := [(b0, .inl (cI, 220, .inl S_3))]) hP hD hS hA [0] [] [0] rfl rfl (by decide) (by decide) rfl (by decide) (va_runS (As := [.ref b0, .int p1, .int 2]) (rest := [.int 2, .int p1, .ref b0]) ⟨hx, hb, hml, hown, hts⟩ (kX4_of l D cI cB cL b0 _ S_3 p1 2 r_8 h_7) (va_cwS 3 hts gX4_goes_X4_of rfl rfl rfl (by decide +kernel) ⟨Nat.le_of_ble_eq_true rfl, Nat.le_of_ble_eq_true rfl⟩) (pre_S hK hE hP hD hS hA [0] rfl (by decide)) rfl rfl hl.1 rfl (lv_room (Nat.le_of_ble_eq_true rfl)) dX4_goes_76 ⟨Nat.le_of_ble_eq_true rfl, Nat.le_of_ble_eq_true rfl⟩) (fun H locs hP hD hS => ?_)
          refine lv_iconst (v := 1) hx hb dX4_goes_79 (by decide) ?_
          refine lv_isub hx hb dX4_goes_80 ?_
          obtain ⟨q, h_9, hf⟩ := bd_some hf
          obtain ⟨S_10, rfl⟩ : ∃ z, z = q := ⟨_, rfl⟩
          try dsimp only at hf
          refine cl_v (ws := [(b0, .inl (cI, 220, .inl S_3))]) (wc := [(b0, .inl (cI, 220, .inl S_3))]) (wr := []) (w1 := [(b0, .inl (cI, 220, .inl S_10))]) (ws' := [(b0, .inl (cI, 220, .inl S_10))]) hP hD hS hA [0] [] [0] rfl rfl (by decide) (by decide) rfl (by decide) (va_runS (As := [.ref b0, .int p1, .int 2, .int (r_8 - 1)]) (rest := []) ⟨hx, hb, hml, hown, hts⟩ (kX4_lay l D cI cB cL b0 _ S_3 p1 2 (r_8 - 1) S_10 h_9) (va_cwS 4 hts gX4_goes_X4_lay rfl rfl rfl (by decide +kernel) ⟨Nat.le_of_ble_eq_true rfl, Nat.le_of_ble_eq_true rfl⟩) (pre_S hK hE hP hD hS hA [0] rfl (by decide)) rfl rfl hl.1 rfl (lv_room (Nat.le_of_ble_eq_true rfl)) dX4_goes_81 ⟨Nat.le_of_ble_eq_true rfl, Nat.le_of_ble_eq_true rfl⟩) (fun H locs hP hD hS => ?_)
          refine lv_aload_n hx hb dX4_goes_84 rfl (lv_at hl 0 rfl) ?_
          refine lv_iload_n hx hb dX4_goes_85 rfl (lv_at hl 1 rfl) ?_
          refine lv_iconst (v := 1) hx hb dX4_goes_86 (by decide) ?_
          refine lv_aload_n hx hb dX4_goes_87 rfl (lv_at hl 0 rfl) ?_
          refine lv_iload_n hx hb dX4_goes_88 rfl (lv_at hl 1 rfl) ?_
          refine lv_iconst (v := 1) hx hb dX4_goes_89 (by decide) ?_
          obtain ⟨q, h_11, hf⟩ := bd_some hf
          obtain ⟨r_12, rfl⟩ : ∃ z, z = q := ⟨_, rfl⟩
          try dsimp only at hf
          refine cl_i (ws := [(b0, .inl (cI, 220, .inl S_10))]) (wc := [(b0, .inl (cI, 220, .inl S_10))]) (wr := []) (w1 := [(b0, .inl (cI, 220, .inl S_10))]) (ws' := [(b0, .inl (cI, 220, .inl S_10))]) hP hD hS hA [0] [] [0] rfl rfl (by decide) (by decide) rfl (by decide) (va_runS (As := [.ref b0, .int p1, .int 1]) (rest := [.int 1, .int p1, .ref b0]) ⟨hx, hb, hml, hown, hts⟩ (kX4_of l D cI cB cL b0 _ S_10 p1 1 r_12 h_11) (va_cwS 3 hts gX4_goes_X4_of rfl rfl rfl (by decide +kernel) ⟨Nat.le_of_ble_eq_true rfl, Nat.le_of_ble_eq_true rfl⟩) (pre_S hK hE hP hD hS hA [0] rfl (by decide)) rfl rfl hl.1 rfl (lv_room (Nat.le_of_ble_eq_true rfl)) dX4_goes_90 ⟨Nat.le_of_ble_eq_true rfl, Nat.le_of_ble_eq_true rfl⟩) (fun H locs hP hD hS => ?_)
          refine lv_iconst (v := 1) hx hb dX4_goes_93 (by decide) ?_
          refine lv_iadd hx hb dX4_goes_94 ?_
          obtain ⟨q, h_13, hf⟩ := bd_some hf
          obtain ⟨S_14, rfl⟩ : ∃ z, z = q := ⟨_, rfl⟩
          try dsimp only at hf
          refine cl_v (ws := [(b0, .inl (cI, 220, .inl S_10))]) (wc := [(b0, .inl (cI, 220, .inl S_10))]) (wr := []) (w1 := [(b0, .inl (cI, 220, .inl S_14))]) (ws' := [(b0, .inl (cI, 220, .inl S_14))]) hP hD hS hA [0] [] [0] rfl rfl (by decide) (by decide) rfl (by decide) (va_runS (As := [.ref b0, .int p1, .int 1, .int (r_12 + 1)]) (rest := []) ⟨hx, hb, hml, hown, hts⟩ (kX4_lay l D cI cB cL b0 _ S_10 p1 1 (r_12 + 1) S_14 h_13) (va_cwS 4 hts gX4_goes_X4_lay rfl rfl rfl (by decide +kernel) ⟨Nat.le_of_ble_eq_true rfl, Nat.le_of_ble_eq_true rfl⟩) (pre_S hK hE hP hD hS hA [0] rfl (by decide)) rfl rfl hl.1 rfl (lv_room (Nat.le_of_ble_eq_true rfl)) dX4_goes_95 ⟨Nat.le_of_ble_eq_true rfl, Nat.le_of_ble_eq_true rfl⟩) (fun H locs hP hD hS => ?_)
          cases hf
          exact rt_v hQ hx hb hr hlocks hP hD hS dX4_goes_98
      · have hf := br_neg c_1 hf
        refine lv_aload_n hx hb dX4_goes_27 rfl (lv_at hl 0 rfl) ?_
        refine lv_iload_n hx hb dX4_goes_28 rfl (lv_at hl 1 rfl) ?_
        refine lv_bipush (v := 9) hx hb dX4_goes_29 (by decide) ?_
        refine lv_iload_n hx hb dX4_goes_31 rfl (lv_at hl 3 rfl) ?_
        refine lv_iadd hx hb dX4_goes_32 ?_
        refine lv_aload_n hx hb dX4_goes_33 rfl (lv_at hl 0 rfl) ?_
        refine lv_iload_n hx hb dX4_goes_34 rfl (lv_at hl 1 rfl) ?_
        refine lv_bipush (v := 9) hx hb dX4_goes_35 (by decide) ?_
        refine lv_iload_n hx hb dX4_goes_37 rfl (lv_at hl 3 rfl) ?_
        refine lv_iadd hx hb dX4_goes_38 ?_
        refine lv_iconst (v := 1) hx hb dX4_goes_39 (by decide) ?_
        refine lv_isub hx hb dX4_goes_40 ?_
        obtain ⟨q, h_15, hf⟩ := bd_some hf
        obtain ⟨r_16, rfl⟩ : ∃ z, z = q := ⟨_, rfl⟩
        try dsimp only at hf
        refine cl_i (ws := [(b0, .inl (cI, 220, .inl S))]) (wc := [(b0, .inl (cI, 220, .inl S))]) (wr := []) (w1 := [(b0, .inl (cI, 220, .inl S))]) (ws' := [(b0, .inl (cI, 220, .inl S))]) hP hD hS hA [0] [] [0] rfl rfl (by decide) (by decide) rfl (by decide) (va_runS (As := [.ref b0, .int p1, .int ((9 + v3) - 1)]) (rest := [.int (9 + v3), .int p1, .ref b0]) ⟨hx, hb, hml, hown, hts⟩ (kX4_of l D cI cB cL b0 _ S p1 ((9 + v3) - 1) r_16 h_15) (va_cwS 3 hts gX4_goes_X4_of rfl rfl rfl (by decide +kernel) ⟨Nat.le_of_ble_eq_true rfl, Nat.le_of_ble_eq_true rfl⟩) (pre_S hK hE hP hD hS hA [0] rfl (by decide)) rfl rfl hl.1 rfl (lv_room (Nat.le_of_ble_eq_true rfl)) dX4_goes_41 ⟨Nat.le_of_ble_eq_true rfl, Nat.le_of_ble_eq_true rfl⟩) (fun H locs hP hD hS => ?_)
        obtain ⟨q, h_17, hf⟩ := bd_some hf
        obtain ⟨S_18, rfl⟩ : ∃ z, z = q := ⟨_, rfl⟩
        try dsimp only at hf
        refine cl_v (ws := [(b0, .inl (cI, 220, .inl S))]) (wc := [(b0, .inl (cI, 220, .inl S))]) (wr := []) (w1 := [(b0, .inl (cI, 220, .inl S_18))]) (ws' := [(b0, .inl (cI, 220, .inl S_18))]) hP hD hS hA [0] [] [0] rfl rfl (by decide) (by decide) rfl (by decide) (va_runS (As := [.ref b0, .int p1, .int (9 + v3), .int r_16]) (rest := []) ⟨hx, hb, hml, hown, hts⟩ (kX4_lay l D cI cB cL b0 _ S p1 (9 + v3) r_16 S_18 h_17) (va_cwS 4 hts gX4_goes_X4_lay rfl rfl rfl (by decide +kernel) ⟨Nat.le_of_ble_eq_true rfl, Nat.le_of_ble_eq_true rfl⟩) (pre_S hK hE hP hD hS hA [0] rfl (by decide)) rfl rfl hl.1 rfl (lv_room (Nat.le_of_ble_eq_true rfl)) dX4_goes_44 ⟨Nat.le_of_ble_eq_true rfl, Nat.le_of_ble_eq_true rfl⟩) (fun H locs hP hD hS => ?_)
        refine lv_iinc (v := (v3 + (-1))) (lv' := [(3, .int (v3 + (-1))), (0, .ref b0), (1, .int p1), (2, .int p2)]) hx hb dX4_goes_47 hl (k := 3) rfl rfl (by decide) rfl (fun ls hl => ?_)
        refine lv_goto (tgt := 23) hx hb dX4_goes_50 (by decide) ?_
        exact ih (v3 + (-1)) S_18 _ _ _ hf hP hD hS (lv_sub hl [1, 2, 3, 0] rfl)
  have g22 : ∀ (z0 : Int32) (S : Nat → Int32) (H : Heap) (locs : List Loc) (ls : Array Slot), fX4_goes_22 p1 p2 z0 S = some S' → va_P D vwCl [(b0, .inl (cI, 220, .inl S))] H → va_D A [(b0, .inl (cI, 220, .inl S))] → va_S A s.heap H locs → lv_has ls 4 [(0, .ref b0), (1, .int p1), (2, .int p2)] → W p l e rmX4_goes s m args below meth c H locs 0 0 Q (F0 m 22 ls [.int z0]) := by
    intro  z0 S H locs ls hf hP hD hS hl
    unfold fX4_goes_22 at hf
    refine lv_istore_n (lv' := [(3, .int z0), (0, .ref b0), (1, .int p1), (2, .int p2)]) hx hb dX4_goes_22 rfl hl (by decide) rfl (fun ls hl => ?_)
    exact g23 5000 z0 S _ _ _ hf hP hD hS (lv_sub hl [1, 2, 3, 0] rfl)
  unfold fX4_goes at hf
  refine lv_aload_n hx hb dX4_goes_0 rfl (lv_at hl 0 rfl) ?_
  refine lv_iload_n hx hb dX4_goes_1 rfl (lv_at hl 1 rfl) ?_
  refine lv_iconst (v := 1) hx hb dX4_goes_2 (by decide) ?_
  obtain ⟨q, h_19, hf⟩ := bd_some hf
  obtain ⟨r_20, rfl⟩ : ∃ z, z = q := ⟨_, rfl⟩
  try dsimp only at hf
  refine cl_i (ws := [(b0, .inl (cI, 220, .inl S))]) (wc := [(b0, .inl (cI, 220, .inl S))]) (wr := []) (w1 := [(b0, .inl (cI, 220, .inl S))]) (ws' := [(b0, .inl (cI, 220, .inl S))]) hP hD hS hA [0] [] [0] rfl rfl (by decide) (by decide) rfl (by decide) (va_runS (As := [.ref b0, .int p1, .int 1]) (rest := []) ⟨hx, hb, hml, hown, hts⟩ (kX4_of l D cI cB cL b0 _ S p1 1 r_20 h_19) (va_cwS 3 hts gX4_goes_X4_of rfl rfl rfl (by decide +kernel) ⟨Nat.le_of_ble_eq_true rfl, Nat.le_of_ble_eq_true rfl⟩) (pre_S hK hE hP hD hS hA [0] rfl (by decide)) rfl rfl hl.1 rfl (lv_room (Nat.le_of_ble_eq_true rfl)) dX4_goes_3 ⟨Nat.le_of_ble_eq_true rfl, Nat.le_of_ble_eq_true rfl⟩) (fun H locs hP hD hS => ?_)
  refine lv_bipush (v := 9) hx hb dX4_goes_6 (by decide) ?_
  refine lv_icmp_ge (tgt := 20) hx hb dX4_goes_8 (by decide) (fun c_21 => ?_) (fun c_21 => ?_)
  · have hf := br_pos c_21 hf
    refine lv_bipush (v := 8) hx hb dX4_goes_20 (by decide) ?_
    exact g22 8 S _ _ _ hf hP hD hS (lv_sub hl [0, 1, 2] rfl)
  · have hf := br_neg c_21 hf
    refine lv_aload_n hx hb dX4_goes_11 rfl (lv_at hl 0 rfl) ?_
    refine lv_iload_n hx hb dX4_goes_12 rfl (lv_at hl 1 rfl) ?_
    refine lv_iconst (v := 1) hx hb dX4_goes_13 (by decide) ?_
    obtain ⟨q, h_22, hf⟩ := bd_some hf
    obtain ⟨r_23, rfl⟩ : ∃ z, z = q := ⟨_, rfl⟩
    try dsimp only at hf
    refine cl_i (ws := [(b0, .inl (cI, 220, .inl S))]) (wc := [(b0, .inl (cI, 220, .inl S))]) (wr := []) (w1 := [(b0, .inl (cI, 220, .inl S))]) (ws' := [(b0, .inl (cI, 220, .inl S))]) hP hD hS hA [0] [] [0] rfl rfl (by decide) (by decide) rfl (by decide) (va_runS (As := [.ref b0, .int p1, .int 1]) (rest := []) ⟨hx, hb, hml, hown, hts⟩ (kX4_of l D cI cB cL b0 _ S p1 1 r_23 h_22) (va_cwS 3 hts gX4_goes_X4_of rfl rfl rfl (by decide +kernel) ⟨Nat.le_of_ble_eq_true rfl, Nat.le_of_ble_eq_true rfl⟩) (pre_S hK hE hP hD hS hA [0] rfl (by decide)) rfl rfl hl.1 rfl (lv_room (Nat.le_of_ble_eq_true rfl)) dX4_goes_14 ⟨Nat.le_of_ble_eq_true rfl, Nat.le_of_ble_eq_true rfl⟩) (fun H locs hP hD hS => ?_)
    refine lv_goto (tgt := 22) hx hb dX4_goes_17 (by decide) ?_
    exact g22 r_23 S _ _ _ hf hP hD hS (lv_sub hl [0, 1, 2] rfl)
abbrev rmX4_eatsOne : Room := ({ frames := 2, cells := 0, slots := 0, locals := 23 })
set_option maxHeartbeats 4000000 in
set_option maxRecDepth 100000 in
theorem kX4_eatsOne (l : Launch) (D : va_G) (cI cB cL : ClassId) (b0 : Nat) (sz : Nat) (S : Nat → Int32) (p1 : Int32) (S' : Nat → Int32) (hf : fX4_eatsOne S p1 = some S') : Met l yX4_eatsOne wsX4_eatsOne rmX4_eatsOne (mPc D (tyK cI cB cL) [.ref b0, .int p1] sz [(b0, .inl (cI, 220, .inl S))]) (mQv D [(b0, .inl (cI, 220, .inl S'))] (va_A [(b0, .inl (cI, 220, .inl S))] sz)) 0 0 (va_A [(b0, .inl (cI, 220, .inl S))] sz) := by
  refine m_of (Qf := mQv D [(b0, .inl (cI, 220, .inl S'))]) (cc := cX4_eatsOne) (maxL := 2) (ret := none) (by decide) rfl (Nat.le_of_ble_eq_true rfl) ?_
  intro p e s m args below meth c A ls hsz hx hb hr hml hown hts hlocks hP hK hD hS hA hE hin hl Q hQ
  subst hsz
  have hl : lv_has ls 2 [(0, .ref b0), (1, .int p1)] := hl
  have hown : s.vm.findClass RX4 = some m.cls := hown
  have hl0 := hl
  have g54 : ∀ (S : Nat → Int32) (H : Heap) (locs : List Loc) (ls : Array Slot), fX4_eatsOne_54 p1 S = some S' → va_P D vwCl [(b0, .inl (cI, 220, .inl S))] H → va_D A [(b0, .inl (cI, 220, .inl S))] → va_S A s.heap H locs → lv_has ls 2 [(0, .ref b0), (1, .int p1)] → W p l e rmX4_eatsOne s m args below meth c H locs 0 0 Q (F0 m 54 ls []) := by
    intro  S H locs ls hf hP hD hS hl
    unfold fX4_eatsOne_54 at hf
    refine lv_aload_n hx hb dX4_eatsOne_54 rfl (lv_at hl 0 rfl) ?_
    refine lv_iload_n hx hb dX4_eatsOne_55 rfl (lv_at hl 1 rfl) ?_
    refine lv_iconst (v := 1) hx hb dX4_eatsOne_56 (by decide) ?_
    obtain ⟨q, h_1, hf⟩ := bd_some hf
    obtain ⟨r_2, rfl⟩ : ∃ z, z = q := ⟨_, rfl⟩
    try dsimp only at hf
    refine cl_i (ws := [(b0, .inl (cI, 220, .inl S))]) (wc := [(b0, .inl (cI, 220, .inl S))]) (wr := []) (w1 := [(b0, .inl (cI, 220, .inl S))]) (ws' := [(b0, .inl (cI, 220, .inl S))]) hP hD hS hA [0] [] [0] rfl rfl (by decide) (by decide) rfl (by decide) (va_runS (As := [.ref b0, .int p1, .int 1]) (rest := []) ⟨hx, hb, hml, hown, hts⟩ (kX4_of l D cI cB cL b0 _ S p1 1 r_2 h_1) (va_cwS 3 hts gX4_eatsOne_X4_of rfl rfl rfl (by decide +kernel) ⟨Nat.le_of_ble_eq_true rfl, Nat.le_of_ble_eq_true rfl⟩) (pre_S hK hE hP hD hS hA [0] rfl (by decide)) rfl rfl hl.1 rfl (lv_room (Nat.le_of_ble_eq_true rfl)) dX4_eatsOne_57 ⟨Nat.le_of_ble_eq_true rfl, Nat.le_of_ble_eq_true rfl⟩) (fun H locs hP hD hS => ?_)
    refine lv_if_ne (tgt := 81) hx hb dX4_eatsOne_60 (by decide) (fun c_3 => ?_) (fun c_3 => ?_)
    · have hf := br_neg c_3 hf
      cases hf
      exact rt_v hQ hx hb hr hlocks hP hD hS dX4_eatsOne_81
    · have hf := br_pos c_3 hf
      refine lv_aload_n hx hb dX4_eatsOne_63 rfl (lv_at hl 0 rfl) ?_
      refine lv_iload_n hx hb dX4_eatsOne_64 rfl (lv_at hl 1 rfl) ?_
      refine lv_iconst (v := 0) hx hb dX4_eatsOne_65 (by decide) ?_
      refine lv_iconst (v := 2) hx hb dX4_eatsOne_66 (by decide) ?_
      obtain ⟨q, h_4, hf⟩ := bd_some hf
      obtain ⟨S_5, rfl⟩ : ∃ z, z = q := ⟨_, rfl⟩
      try dsimp only at hf
      refine cl_v (ws := [(b0, .inl (cI, 220, .inl S))]) (wc := [(b0, .inl (cI, 220, .inl S))]) (wr := []) (w1 := [(b0, .inl (cI, 220, .inl S_5))]) (ws' := [(b0, .inl (cI, 220, .inl S_5))]) hP hD hS hA [0] [] [0] rfl rfl (by decide) (by decide) rfl (by decide) (va_runS (As := [.ref b0, .int p1, .int 0, .int 2]) (rest := []) ⟨hx, hb, hml, hown, hts⟩ (kX4_lay l D cI cB cL b0 _ S p1 0 2 S_5 h_4) (va_cwS 4 hts gX4_eatsOne_X4_lay rfl rfl rfl (by decide +kernel) ⟨Nat.le_of_ble_eq_true rfl, Nat.le_of_ble_eq_true rfl⟩) (pre_S hK hE hP hD hS hA [0] rfl (by decide)) rfl rfl hl.1 rfl (lv_room (Nat.le_of_ble_eq_true rfl)) dX4_eatsOne_67 ⟨Nat.le_of_ble_eq_true rfl, Nat.le_of_ble_eq_true rfl⟩) (fun H locs hP hD hS => ?_)
      refine lv_aload_n hx hb dX4_eatsOne_70 rfl (lv_at hl 0 rfl) ?_
      refine lv_iload_n hx hb dX4_eatsOne_71 rfl (lv_at hl 1 rfl) ?_
      refine lv_iconst (v := 5) hx hb dX4_eatsOne_72 (by decide) ?_
      refine lv_aload_n hx hb dX4_eatsOne_73 rfl (lv_at hl 0 rfl) ?_
      refine lv_iconst (v := 1) hx hb dX4_eatsOne_74 (by decide) ?_
      refine x_iald hx hb hK hP 0 0 rfl rfl (vl rfl) 1 rfl dX4_eatsOne_75 ?_
      refine lv_iconst (v := 1) hx hb dX4_eatsOne_76 (by decide) ?_
      refine lv_iadd hx hb dX4_eatsOne_77 ?_
      obtain ⟨q, h_6, hf⟩ := bd_some hf
      obtain ⟨S_7, rfl⟩ : ∃ z, z = q := ⟨_, rfl⟩
      try dsimp only at hf
      refine cl_v (ws := [(b0, .inl (cI, 220, .inl S_5))]) (wc := [(b0, .inl (cI, 220, .inl S_5))]) (wr := []) (w1 := [(b0, .inl (cI, 220, .inl S_7))]) (ws' := [(b0, .inl (cI, 220, .inl S_7))]) hP hD hS hA [0] [] [0] rfl rfl (by decide) (by decide) rfl (by decide) (va_runS (As := [.ref b0, .int p1, .int 5, .int ((S_5 1) + 1)]) (rest := []) ⟨hx, hb, hml, hown, hts⟩ (kX4_lay l D cI cB cL b0 _ S_5 p1 5 ((S_5 1) + 1) S_7 h_6) (va_cwS 4 hts gX4_eatsOne_X4_lay rfl rfl rfl (by decide +kernel) ⟨Nat.le_of_ble_eq_true rfl, Nat.le_of_ble_eq_true rfl⟩) (pre_S hK hE hP hD hS hA [0] rfl (by decide)) rfl rfl hl.1 rfl (lv_room (Nat.le_of_ble_eq_true rfl)) dX4_eatsOne_78 ⟨Nat.le_of_ble_eq_true rfl, Nat.le_of_ble_eq_true rfl⟩) (fun H locs hP hD hS => ?_)
      cases hf
      exact rt_v hQ hx hb hr hlocks hP hD hS dX4_eatsOne_81
  unfold fX4_eatsOne at hf
  refine lv_aload_n hx hb dX4_eatsOne_0 rfl (lv_at hl 0 rfl) ?_
  refine lv_iload_n hx hb dX4_eatsOne_1 rfl (lv_at hl 1 rfl) ?_
  refine lv_iconst (v := 3) hx hb dX4_eatsOne_2 (by decide) ?_
  refine lv_aload_n hx hb dX4_eatsOne_3 rfl (lv_at hl 0 rfl) ?_
  refine lv_iload_n hx hb dX4_eatsOne_4 rfl (lv_at hl 1 rfl) ?_
  refine lv_iconst (v := 3) hx hb dX4_eatsOne_5 (by decide) ?_
  obtain ⟨q, h_8, hf⟩ := bd_some hf
  obtain ⟨r_9, rfl⟩ : ∃ z, z = q := ⟨_, rfl⟩
  try dsimp only at hf
  refine cl_i (ws := [(b0, .inl (cI, 220, .inl S))]) (wc := [(b0, .inl (cI, 220, .inl S))]) (wr := []) (w1 := [(b0, .inl (cI, 220, .inl S))]) (ws' := [(b0, .inl (cI, 220, .inl S))]) hP hD hS hA [0] [] [0] rfl rfl (by decide) (by decide) rfl (by decide) (va_runS (As := [.ref b0, .int p1, .int 3]) (rest := [.int 3, .int p1, .ref b0]) ⟨hx, hb, hml, hown, hts⟩ (kX4_of l D cI cB cL b0 _ S p1 3 r_9 h_8) (va_cwS 3 hts gX4_eatsOne_X4_of rfl rfl rfl (by decide +kernel) ⟨Nat.le_of_ble_eq_true rfl, Nat.le_of_ble_eq_true rfl⟩) (pre_S hK hE hP hD hS hA [0] rfl (by decide)) rfl rfl hl.1 rfl (lv_room (Nat.le_of_ble_eq_true rfl)) dX4_eatsOne_6 ⟨Nat.le_of_ble_eq_true rfl, Nat.le_of_ble_eq_true rfl⟩) (fun H locs hP hD hS => ?_)
  refine lv_iconst (v := 1) hx hb dX4_eatsOne_9 (by decide) ?_
  refine lv_iadd hx hb dX4_eatsOne_10 ?_
  obtain ⟨q, h_10, hf⟩ := bd_some hf
  obtain ⟨S_11, rfl⟩ : ∃ z, z = q := ⟨_, rfl⟩
  try dsimp only at hf
  refine cl_v (ws := [(b0, .inl (cI, 220, .inl S))]) (wc := [(b0, .inl (cI, 220, .inl S))]) (wr := []) (w1 := [(b0, .inl (cI, 220, .inl S_11))]) (ws' := [(b0, .inl (cI, 220, .inl S_11))]) hP hD hS hA [0] [] [0] rfl rfl (by decide) (by decide) rfl (by decide) (va_runS (As := [.ref b0, .int p1, .int 3, .int (r_9 + 1)]) (rest := []) ⟨hx, hb, hml, hown, hts⟩ (kX4_lay l D cI cB cL b0 _ S p1 3 (r_9 + 1) S_11 h_10) (va_cwS 4 hts gX4_eatsOne_X4_lay rfl rfl rfl (by decide +kernel) ⟨Nat.le_of_ble_eq_true rfl, Nat.le_of_ble_eq_true rfl⟩) (pre_S hK hE hP hD hS hA [0] rfl (by decide)) rfl rfl hl.1 rfl (lv_room (Nat.le_of_ble_eq_true rfl)) dX4_eatsOne_11 ⟨Nat.le_of_ble_eq_true rfl, Nat.le_of_ble_eq_true rfl⟩) (fun H locs hP hD hS => ?_)
  refine lv_aload_n hx hb dX4_eatsOne_14 rfl (lv_at hl 0 rfl) ?_
  refine lv_iload_n hx hb dX4_eatsOne_15 rfl (lv_at hl 1 rfl) ?_
  refine lv_iconst (v := 2) hx hb dX4_eatsOne_16 (by decide) ?_
  obtain ⟨q, h_12, hf⟩ := bd_some hf
  obtain ⟨r_13, rfl⟩ : ∃ z, z = q := ⟨_, rfl⟩
  try dsimp only at hf
  refine cl_i (ws := [(b0, .inl (cI, 220, .inl S_11))]) (wc := [(b0, .inl (cI, 220, .inl S_11))]) (wr := []) (w1 := [(b0, .inl (cI, 220, .inl S_11))]) (ws' := [(b0, .inl (cI, 220, .inl S_11))]) hP hD hS hA [0] [] [0] rfl rfl (by decide) (by decide) rfl (by decide) (va_runS (As := [.ref b0, .int p1, .int 2]) (rest := []) ⟨hx, hb, hml, hown, hts⟩ (kX4_of l D cI cB cL b0 _ S_11 p1 2 r_13 h_12) (va_cwS 3 hts gX4_eatsOne_X4_of rfl rfl rfl (by decide +kernel) ⟨Nat.le_of_ble_eq_true rfl, Nat.le_of_ble_eq_true rfl⟩) (pre_S hK hE hP hD hS hA [0] rfl (by decide)) rfl rfl hl.1 rfl (lv_room (Nat.le_of_ble_eq_true rfl)) dX4_eatsOne_17 ⟨Nat.le_of_ble_eq_true rfl, Nat.le_of_ble_eq_true rfl⟩) (fun H locs hP hD hS => ?_)
  refine lv_if_le (tgt := 40) hx hb dX4_eatsOne_20 (by decide) (fun c_14 => ?_) (fun c_14 => ?_)
  · have hf := br_pos c_14 hf
    refine lv_aload_n hx hb dX4_eatsOne_40 rfl (lv_at hl 0 rfl) ?_
    refine lv_iload_n hx hb dX4_eatsOne_41 rfl (lv_at hl 1 rfl) ?_
    refine lv_iconst (v := 1) hx hb dX4_eatsOne_42 (by decide) ?_
    refine lv_aload_n hx hb dX4_eatsOne_43 rfl (lv_at hl 0 rfl) ?_
    refine lv_iload_n hx hb dX4_eatsOne_44 rfl (lv_at hl 1 rfl) ?_
    refine lv_iconst (v := 1) hx hb dX4_eatsOne_45 (by decide) ?_
    obtain ⟨q, h_15, hf⟩ := bd_some hf
    obtain ⟨r_16, rfl⟩ : ∃ z, z = q := ⟨_, rfl⟩
    try dsimp only at hf
    refine cl_i (ws := [(b0, .inl (cI, 220, .inl S_11))]) (wc := [(b0, .inl (cI, 220, .inl S_11))]) (wr := []) (w1 := [(b0, .inl (cI, 220, .inl S_11))]) (ws' := [(b0, .inl (cI, 220, .inl S_11))]) hP hD hS hA [0] [] [0] rfl rfl (by decide) (by decide) rfl (by decide) (va_runS (As := [.ref b0, .int p1, .int 1]) (rest := [.int 1, .int p1, .ref b0]) ⟨hx, hb, hml, hown, hts⟩ (kX4_of l D cI cB cL b0 _ S_11 p1 1 r_16 h_15) (va_cwS 3 hts gX4_eatsOne_X4_of rfl rfl rfl (by decide +kernel) ⟨Nat.le_of_ble_eq_true rfl, Nat.le_of_ble_eq_true rfl⟩) (pre_S hK hE hP hD hS hA [0] rfl (by decide)) rfl rfl hl.1 rfl (lv_room (Nat.le_of_ble_eq_true rfl)) dX4_eatsOne_46 ⟨Nat.le_of_ble_eq_true rfl, Nat.le_of_ble_eq_true rfl⟩) (fun H locs hP hD hS => ?_)
    refine lv_iconst (v := 1) hx hb dX4_eatsOne_49 (by decide) ?_
    refine lv_isub hx hb dX4_eatsOne_50 ?_
    obtain ⟨q, h_17, hf⟩ := bd_some hf
    obtain ⟨S_18, rfl⟩ : ∃ z, z = q := ⟨_, rfl⟩
    try dsimp only at hf
    refine cl_v (ws := [(b0, .inl (cI, 220, .inl S_11))]) (wc := [(b0, .inl (cI, 220, .inl S_11))]) (wr := []) (w1 := [(b0, .inl (cI, 220, .inl S_18))]) (ws' := [(b0, .inl (cI, 220, .inl S_18))]) hP hD hS hA [0] [] [0] rfl rfl (by decide) (by decide) rfl (by decide) (va_runS (As := [.ref b0, .int p1, .int 1, .int (r_16 - 1)]) (rest := []) ⟨hx, hb, hml, hown, hts⟩ (kX4_lay l D cI cB cL b0 _ S_11 p1 1 (r_16 - 1) S_18 h_17) (va_cwS 4 hts gX4_eatsOne_X4_lay rfl rfl rfl (by decide +kernel) ⟨Nat.le_of_ble_eq_true rfl, Nat.le_of_ble_eq_true rfl⟩) (pre_S hK hE hP hD hS hA [0] rfl (by decide)) rfl rfl hl.1 rfl (lv_room (Nat.le_of_ble_eq_true rfl)) dX4_eatsOne_51 ⟨Nat.le_of_ble_eq_true rfl, Nat.le_of_ble_eq_true rfl⟩) (fun H locs hP hD hS => ?_)
    exact g54 S_18 _ _ _ hf hP hD hS (lv_sub hl [0, 1] rfl)
  · have hf := br_neg c_14 hf
    refine lv_aload_n hx hb dX4_eatsOne_23 rfl (lv_at hl 0 rfl) ?_
    refine lv_iload_n hx hb dX4_eatsOne_24 rfl (lv_at hl 1 rfl) ?_
    refine lv_iconst (v := 2) hx hb dX4_eatsOne_25 (by decide) ?_
    refine lv_aload_n hx hb dX4_eatsOne_26 rfl (lv_at hl 0 rfl) ?_
    refine lv_iload_n hx hb dX4_eatsOne_27 rfl (lv_at hl 1 rfl) ?_
    refine lv_iconst (v := 2) hx hb dX4_eatsOne_28 (by decide) ?_
    obtain ⟨q, h_19, hf⟩ := bd_some hf
    obtain ⟨r_20, rfl⟩ : ∃ z, z = q := ⟨_, rfl⟩
    try dsimp only at hf
    refine cl_i (ws := [(b0, .inl (cI, 220, .inl S_11))]) (wc := [(b0, .inl (cI, 220, .inl S_11))]) (wr := []) (w1 := [(b0, .inl (cI, 220, .inl S_11))]) (ws' := [(b0, .inl (cI, 220, .inl S_11))]) hP hD hS hA [0] [] [0] rfl rfl (by decide) (by decide) rfl (by decide) (va_runS (As := [.ref b0, .int p1, .int 2]) (rest := [.int 2, .int p1, .ref b0]) ⟨hx, hb, hml, hown, hts⟩ (kX4_of l D cI cB cL b0 _ S_11 p1 2 r_20 h_19) (va_cwS 3 hts gX4_eatsOne_X4_of rfl rfl rfl (by decide +kernel) ⟨Nat.le_of_ble_eq_true rfl, Nat.le_of_ble_eq_true rfl⟩) (pre_S hK hE hP hD hS hA [0] rfl (by decide)) rfl rfl hl.1 rfl (lv_room (Nat.le_of_ble_eq_true rfl)) dX4_eatsOne_29 ⟨Nat.le_of_ble_eq_true rfl, Nat.le_of_ble_eq_true rfl⟩) (fun H locs hP hD hS => ?_)
    refine lv_iconst (v := 1) hx hb dX4_eatsOne_32 (by decide) ?_
    refine lv_isub hx hb dX4_eatsOne_33 ?_
    obtain ⟨q, h_21, hf⟩ := bd_some hf
    obtain ⟨S_22, rfl⟩ : ∃ z, z = q := ⟨_, rfl⟩
    try dsimp only at hf
    refine cl_v (ws := [(b0, .inl (cI, 220, .inl S_11))]) (wc := [(b0, .inl (cI, 220, .inl S_11))]) (wr := []) (w1 := [(b0, .inl (cI, 220, .inl S_22))]) (ws' := [(b0, .inl (cI, 220, .inl S_22))]) hP hD hS hA [0] [] [0] rfl rfl (by decide) (by decide) rfl (by decide) (va_runS (As := [.ref b0, .int p1, .int 2, .int (r_20 - 1)]) (rest := []) ⟨hx, hb, hml, hown, hts⟩ (kX4_lay l D cI cB cL b0 _ S_11 p1 2 (r_20 - 1) S_22 h_21) (va_cwS 4 hts gX4_eatsOne_X4_lay rfl rfl rfl (by decide +kernel) ⟨Nat.le_of_ble_eq_true rfl, Nat.le_of_ble_eq_true rfl⟩) (pre_S hK hE hP hD hS hA [0] rfl (by decide)) rfl rfl hl.1 rfl (lv_room (Nat.le_of_ble_eq_true rfl)) dX4_eatsOne_34 ⟨Nat.le_of_ble_eq_true rfl, Nat.le_of_ble_eq_true rfl⟩) (fun H locs hP hD hS => ?_)
    refine lv_goto (tgt := 54) hx hb dX4_eatsOne_37 (by decide) ?_
    exact g54 S_22 _ _ _ hf hP hD hS (lv_sub hl [0, 1] rfl)
abbrev rmX4_acts : Room := ({ frames := 6, cells := 0, slots := 0, locals := 112 })
set_option maxHeartbeats 4000000 in
set_option maxRecDepth 100000 in
theorem kX4_acts (l : Launch) (D : va_G) (cI cB cL : ClassId) (b0 : Nat) (sz : Nat) (S : Nat → Int32) (p1 : Int32) (S' : Nat → Int32) (hf : fX4_acts S p1 = some S') : Met l yX4_acts wsX4_acts rmX4_acts (mPc D (tyK cI cB cL) [.ref b0, .int p1] sz [(b0, .inl (cI, 220, .inl S))]) (mQv D [(b0, .inl (cI, 220, .inl S'))] (va_A [(b0, .inl (cI, 220, .inl S))] sz)) 0 0 (va_A [(b0, .inl (cI, 220, .inl S))] sz) := by
  refine m_of (Qf := mQv D [(b0, .inl (cI, 220, .inl S'))]) (cc := cX4_acts) (maxL := 3) (ret := none) (by decide) rfl (Nat.le_of_ble_eq_true rfl) ?_
  intro p e s m args below meth c A ls hsz hx hb hr hml hown hts hlocks hP hK hD hS hA hE hin hl Q hQ
  subst hsz
  have hl : lv_has ls 3 [(0, .ref b0), (1, .int p1)] := hl
  have hown : s.vm.findClass RX4 = some m.cls := hown
  have hl0 := hl
  have g51 : ∀ (v2 : Int32) (S : Nat → Int32) (H : Heap) (locs : List Loc) (ls : Array Slot), fX4_acts_51 p1 v2 S = some S' → va_P D vwCl [(b0, .inl (cI, 220, .inl S))] H → va_D A [(b0, .inl (cI, 220, .inl S))] → va_S A s.heap H locs → lv_has ls 3 [(0, .ref b0), (1, .int p1), (2, .int v2)] → W p l e rmX4_acts s m args below meth c H locs 0 0 Q (F0 m 51 ls []) := by
    intro  v2 S H locs ls hf hP hD hS hl
    unfold fX4_acts_51 at hf
    refine lv_iload_n hx hb dX4_acts_51 rfl (lv_at hl 2 rfl) ?_
    refine lv_iconst (v := (-1)) hx hb dX4_acts_52 (by decide) ?_
    refine lv_icmp_eq (tgt := 61) hx hb dX4_acts_53 (by decide) (fun c_1 => ?_) (fun c_1 => ?_)
    · have hf := br_pos c_1 hf
      cases hf
      exact rt_v hQ hx hb hr hlocks hP hD hS dX4_acts_61
    · have hf := br_neg c_1 hf
      refine lv_aload_n hx hb dX4_acts_56 rfl (lv_at hl 0 rfl) ?_
      refine lv_iload_n hx hb dX4_acts_57 rfl (lv_at hl 1 rfl) ?_
      obtain ⟨q, h_2, hf⟩ := bd_some hf
      obtain ⟨S_3, rfl⟩ : ∃ z, z = q := ⟨_, rfl⟩
      try dsimp only at hf
      refine cl_v (ws := [(b0, .inl (cI, 220, .inl S))]) (wc := [(b0, .inl (cI, 220, .inl S))]) (wr := []) (w1 := [(b0, .inl (cI, 220, .inl S_3))]) (ws' := [(b0, .inl (cI, 220, .inl S_3))]) hP hD hS hA [0] [] [0] rfl rfl (by decide) (by decide) rfl (by decide) (va_runS (As := [.ref b0, .int p1]) (rest := []) ⟨hx, hb, hml, hown, hts⟩ (kX4_waits l D cI cB cL b0 _ S p1 S_3 h_2) (va_cwS 2 hts gX4_acts_X4_waits rfl rfl rfl (by decide +kernel) ⟨Nat.le_of_ble_eq_true rfl, Nat.le_of_ble_eq_true rfl⟩) (pre_S hK hE hP hD hS hA [0] rfl (by decide)) rfl rfl hl.1 rfl (lv_room (Nat.le_of_ble_eq_true rfl)) dX4_acts_58 ⟨Nat.le_of_ble_eq_true rfl, Nat.le_of_ble_eq_true rfl⟩) (fun H locs hP hD hS => ?_)
      cases hf
      exact rt_v hQ hx hb hr hlocks hP hD hS dX4_acts_61
  unfold fX4_acts at hf
  refine lv_aload_n hx hb dX4_acts_0 rfl (lv_at hl 0 rfl) ?_
  refine lv_iload_n hx hb dX4_acts_1 rfl (lv_at hl 1 rfl) ?_
  obtain ⟨q, h_4, hf⟩ := bd_some hf
  obtain ⟨r_5, rfl⟩ : ∃ z, z = q := ⟨_, rfl⟩
  try dsimp only at hf
  refine cl_i (ws := [(b0, .inl (cI, 220, .inl S))]) (wc := [(b0, .inl (cI, 220, .inl S))]) (wr := []) (w1 := [(b0, .inl (cI, 220, .inl S))]) (ws' := [(b0, .inl (cI, 220, .inl S))]) hP hD hS hA [0] [] [0] rfl rfl (by decide) (by decide) rfl (by decide) (va_runS (As := [.ref b0, .int p1]) (rest := []) ⟨hx, hb, hml, hown, hts⟩ (kX4_wants l D cI cB cL b0 _ S p1 r_5 h_4) (va_cwS 2 hts gX4_acts_X4_wants rfl rfl rfl (by decide +kernel) ⟨Nat.le_of_ble_eq_true rfl, Nat.le_of_ble_eq_true rfl⟩) (pre_S hK hE hP hD hS hA [0] rfl (by decide)) rfl rfl hl.1 rfl (lv_room (Nat.le_of_ble_eq_true rfl)) dX4_acts_2 ⟨Nat.le_of_ble_eq_true rfl, Nat.le_of_ble_eq_true rfl⟩) (fun H locs hP hD hS => ?_)
  refine lv_istore_n (lv' := [(2, .int r_5), (0, .ref b0), (1, .int p1)]) hx hb dX4_acts_5 rfl hl (by decide) rfl (fun ls hl => ?_)
  refine lv_aload_n hx hb dX4_acts_6 rfl (lv_at hl 1 rfl) ?_
  refine lv_iload_n hx hb dX4_acts_7 rfl (lv_at hl 2 rfl) ?_
  obtain ⟨q, h_6, hf⟩ := bd_some hf
  obtain ⟨r_7, rfl⟩ : ∃ z, z = q := ⟨_, rfl⟩
  try dsimp only at hf
  refine cl_i (ws := [(b0, .inl (cI, 220, .inl S))]) (wc := [(b0, .inl (cI, 220, .inl S))]) (wr := []) (w1 := [(b0, .inl (cI, 220, .inl S))]) (ws' := [(b0, .inl (cI, 220, .inl S))]) hP hD hS hA [0] [] [0] rfl rfl (by decide) (by decide) rfl (by decide) (va_runS (As := [.ref b0, .int p1]) (rest := []) ⟨hx, hb, hml, hown, hts⟩ (kX4_eats l D cI cB cL b0 _ S p1 r_7 h_6) (va_cwS 2 hts gX4_acts_X4_eats rfl rfl rfl (by decide +kernel) ⟨Nat.le_of_ble_eq_true rfl, Nat.le_of_ble_eq_true rfl⟩) (pre_S hK hE hP hD hS hA [0] rfl (by decide)) rfl rfl hl.1 rfl (lv_room (Nat.le_of_ble_eq_true rfl)) dX4_acts_8 ⟨Nat.le_of_ble_eq_true rfl, Nat.le_of_ble_eq_true rfl⟩) (fun H locs hP hD hS => ?_)
  refine lv_if_eq (tgt := 22) hx hb dX4_acts_11 (by decide) (fun c_8 => ?_) (fun c_8 => ?_)
  · have hf := br_pos c_8 hf
    refine lv_iload_n hx hb dX4_acts_22 rfl (lv_at hl 0 rfl) ?_
    refine lv_iconst (v := (-1)) hx hb dX4_acts_23 (by decide) ?_
    refine lv_icmp_eq (tgt := 51) hx hb dX4_acts_24 (by decide) (fun c_9 => ?_) (fun c_9 => ?_)
    · have hf := br_pos c_9 hf
      exact g51 r_5 S _ _ _ hf hP hD hS (lv_sub hl [1, 2, 0] rfl)
    · have hf := br_neg c_9 hf
      refine lv_aload_n hx hb dX4_acts_27 rfl (lv_at hl 1 rfl) ?_
      refine lv_iload_n hx hb dX4_acts_28 rfl (lv_at hl 0 rfl) ?_
      obtain ⟨q, h_10, hf⟩ := bd_some hf
      obtain ⟨r_11, rfl⟩ : ∃ z, z = q := ⟨_, rfl⟩
      try dsimp only at hf
      refine cl_i (ws := [(b0, .inl (cI, 220, .inl S))]) (wc := [(b0, .inl (cI, 220, .inl S))]) (wr := []) (w1 := [(b0, .inl (cI, 220, .inl S))]) (ws' := [(b0, .inl (cI, 220, .inl S))]) hP hD hS hA [0] [] [0] rfl rfl (by decide) (by decide) rfl (by decide) (va_runS (As := [.ref b0, .int r_5]) (rest := []) ⟨hx, hb, hml, hown, hts⟩ (kX4_isFree l D cI cB cL b0 _ S r_5 r_11 h_10) (va_cwS 2 hts gX4_acts_X4_isFree rfl rfl rfl (by decide +kernel) ⟨Nat.le_of_ble_eq_true rfl, Nat.le_of_ble_eq_true rfl⟩) (pre_S hK hE hP hD hS hA [0] rfl (by decide)) rfl rfl hl.1 rfl (lv_room (Nat.le_of_ble_eq_true rfl)) dX4_acts_29 ⟨Nat.le_of_ble_eq_true rfl, Nat.le_of_ble_eq_true rfl⟩) (fun H locs hP hD hS => ?_)
      refine lv_if_eq (tgt := 51) hx hb dX4_acts_32 (by decide) (fun c_12 => ?_) (fun c_12 => ?_)
      · have hf := br_pos c_12 hf
        exact g51 r_5 S _ _ _ hf hP hD hS (lv_sub hl [1, 2, 0] rfl)
      · have hf := br_neg c_12 hf
        refine lv_aload_n hx hb dX4_acts_35 rfl (lv_at hl 1 rfl) ?_
        refine lv_iload_n hx hb dX4_acts_36 rfl (lv_at hl 2 rfl) ?_
        refine lv_iload_n hx hb dX4_acts_37 rfl (lv_at hl 0 rfl) ?_
        obtain ⟨q, h_13, hf⟩ := bd_some hf
        obtain ⟨S_14, rfl⟩ : ∃ z, z = q := ⟨_, rfl⟩
        try dsimp only at hf
        refine cl_v (ws := [(b0, .inl (cI, 220, .inl S))]) (wc := [(b0, .inl (cI, 220, .inl S))]) (wr := []) (w1 := [(b0, .inl (cI, 220, .inl S_14))]) (ws' := [(b0, .inl (cI, 220, .inl S_14))]) hP hD hS hA [0] [] [0] rfl rfl (by decide) (by decide) rfl (by decide) (va_runS (As := [.ref b0, .int p1, .int r_5]) (rest := []) ⟨hx, hb, hml, hown, hts⟩ (kX4_goes l D cI cB cL b0 _ S p1 r_5 S_14 h_13) (va_cwS 3 hts gX4_acts_X4_goes rfl rfl rfl (by decide +kernel) ⟨Nat.le_of_ble_eq_true rfl, Nat.le_of_ble_eq_true rfl⟩) (pre_S hK hE hP hD hS hA [0] rfl (by decide)) rfl rfl hl.1 rfl (lv_room (Nat.le_of_ble_eq_true rfl)) dX4_acts_38 ⟨Nat.le_of_ble_eq_true rfl, Nat.le_of_ble_eq_true rfl⟩) (fun H locs hP hD hS => ?_)
        refine lv_aload_n hx hb dX4_acts_41 rfl (lv_at hl 1 rfl) ?_
        refine lv_iload_n hx hb dX4_acts_42 rfl (lv_at hl 2 rfl) ?_
        refine lv_iconst (v := 0) hx hb dX4_acts_43 (by decide) ?_
        refine lv_iconst (v := 1) hx hb dX4_acts_44 (by decide) ?_
        obtain ⟨q, h_15, hf⟩ := bd_some hf
        obtain ⟨S_16, rfl⟩ : ∃ z, z = q := ⟨_, rfl⟩
        try dsimp only at hf
        refine cl_v (ws := [(b0, .inl (cI, 220, .inl S_14))]) (wc := [(b0, .inl (cI, 220, .inl S_14))]) (wr := []) (w1 := [(b0, .inl (cI, 220, .inl S_16))]) (ws' := [(b0, .inl (cI, 220, .inl S_16))]) hP hD hS hA [0] [] [0] rfl rfl (by decide) (by decide) rfl (by decide) (va_runS (As := [.ref b0, .int p1, .int 0, .int 1]) (rest := []) ⟨hx, hb, hml, hown, hts⟩ (kX4_lay l D cI cB cL b0 _ S_14 p1 0 1 S_16 h_15) (va_cwS 4 hts gX4_acts_X4_lay rfl rfl rfl (by decide +kernel) ⟨Nat.le_of_ble_eq_true rfl, Nat.le_of_ble_eq_true rfl⟩) (pre_S hK hE hP hD hS hA [0] rfl (by decide)) rfl rfl hl.1 rfl (lv_room (Nat.le_of_ble_eq_true rfl)) dX4_acts_45 ⟨Nat.le_of_ble_eq_true rfl, Nat.le_of_ble_eq_true rfl⟩) (fun H locs hP hD hS => ?_)
        refine lv_goto (tgt := 61) hx hb dX4_acts_48 (by decide) ?_
        cases hf
        exact rt_v hQ hx hb hr hlocks hP hD hS dX4_acts_61
  · have hf := br_neg c_8 hf
    refine lv_aload_n hx hb dX4_acts_14 rfl (lv_at hl 1 rfl) ?_
    refine lv_iload_n hx hb dX4_acts_15 rfl (lv_at hl 2 rfl) ?_
    obtain ⟨q, h_17, hf⟩ := bd_some hf
    obtain ⟨S_18, rfl⟩ : ∃ z, z = q := ⟨_, rfl⟩
    try dsimp only at hf
    refine cl_v (ws := [(b0, .inl (cI, 220, .inl S))]) (wc := [(b0, .inl (cI, 220, .inl S))]) (wr := []) (w1 := [(b0, .inl (cI, 220, .inl S_18))]) (ws' := [(b0, .inl (cI, 220, .inl S_18))]) hP hD hS hA [0] [] [0] rfl rfl (by decide) (by decide) rfl (by decide) (va_runS (As := [.ref b0, .int p1]) (rest := []) ⟨hx, hb, hml, hown, hts⟩ (kX4_eatsOne l D cI cB cL b0 _ S p1 S_18 h_17) (va_cwS 2 hts gX4_acts_X4_eatsOne rfl rfl rfl (by decide +kernel) ⟨Nat.le_of_ble_eq_true rfl, Nat.le_of_ble_eq_true rfl⟩) (pre_S hK hE hP hD hS hA [0] rfl (by decide)) rfl rfl hl.1 rfl (lv_room (Nat.le_of_ble_eq_true rfl)) dX4_acts_16 ⟨Nat.le_of_ble_eq_true rfl, Nat.le_of_ble_eq_true rfl⟩) (fun H locs hP hD hS => ?_)
    refine lv_goto (tgt := 61) hx hb dX4_acts_19 (by decide) ?_
    cases hf
    exact rt_v hQ hx hb hr hlocks hP hD hS dX4_acts_61
abbrev rmX4_ticksOn : Room := ({ frames := 7, cells := 0, slots := 0, locals := 134 })
set_option maxHeartbeats 4000000 in
set_option maxRecDepth 100000 in
theorem kX4_ticksOn (l : Launch) (D : va_G) (cI cB cL : ClassId) (b0 : Nat) (sz : Nat) (S : Nat → Int32) (p1 : Int32) (w : Int32) (S' : Nat → Int32) (hf : fX4_ticksOn S p1 = some (w, S')) : Met l yX4_ticksOn wsX4_ticksOn rmX4_ticksOn (mPc D (tyK cI cB cL) [.ref b0, .int p1] sz [(b0, .inl (cI, 220, .inl S))]) (mQi D w [(b0, .inl (cI, 220, .inl S'))] (va_A [(b0, .inl (cI, 220, .inl S))] sz)) 0 0 (va_A [(b0, .inl (cI, 220, .inl S))] sz) := by
  refine m_of (Qf := mQi D w [(b0, .inl (cI, 220, .inl S'))]) (cc := cX4_ticksOn) (maxL := 5) (ret := (some .int)) (by decide) rfl (Nat.le_of_ble_eq_true rfl) ?_
  intro p e s m args below meth c A ls hsz hx hb hr hml hown hts hlocks hP hK hD hS hA hE hin hl Q hQ
  subst hsz
  have hl : lv_has ls 5 [(0, .ref b0), (1, .int p1)] := hl
  have hown : s.vm.findClass RX4 = some m.cls := hown
  have hl0 := hl
  have g16 : ∀ (k8 : Int32 → Int32 → (Nat → Int32) → Option (Int32 × (Nat → Int32))) (hk8 : ∀ (v2 : Int32) (v3 : Int32) (S : Nat → Int32) (H : Heap) (locs : List Loc) (ls : Array Slot), k8 v2 v3 S = some (w, S') → va_P D vwCl [(b0, .inl (cI, 220, .inl S))] H → va_D A [(b0, .inl (cI, 220, .inl S))] → va_S A s.heap H locs → lv_has ls 5 [(0, .ref b0), (1, .int p1), (2, .int v2), (3, .int v3)] → W p l e rmX4_ticksOn s m args below meth c H locs 0 0 Q (F0 m 8 ls [])) (n : Nat) (v2 : Int32) (v3 : Int32) (v4 : Int32) (S : Nat → Int32) (H : Heap) (locs : List Loc) (ls : Array Slot), fX4_ticksOn_16 k8 n v2 v3 v4 S = some (w, S') → va_P D vwCl [(b0, .inl (cI, 220, .inl S))] H → va_D A [(b0, .inl (cI, 220, .inl S))] → va_S A s.heap H locs → lv_has ls 5 [(0, .ref b0), (1, .int p1), (2, .int v2), (3, .int v3), (4, .int v4)] → W p l e rmX4_ticksOn s m args below meth c H locs 0 0 Q (F0 m 16 ls []) := by
    intro k8 hk8 n
    induction n with
    | zero =>
      intro v2 v3 v4 S H locs ls hf
      exact absurd hf (by rw [fX4_ticksOn_16]; simp)
    | succ n ih =>
      intro v2 v3 v4 S H locs ls hf hP hD hS hl
      rw [fX4_ticksOn_16] at hf
      refine lv_iload hx hb dX4_ticksOn_16 (lv_at hl 4 rfl) ?_
      refine lv_aload_n hx hb dX4_ticksOn_18 rfl (lv_at hl 0 rfl) ?_
      refine lv_iconst (v := 0) hx hb dX4_ticksOn_19 (by decide) ?_
      refine x_iald hx hb hK hP 0 0 rfl rfl (vl rfl) 0 rfl dX4_ticksOn_20 ?_
      refine lv_icmp_ge (tgt := 36) hx hb dX4_ticksOn_21 (by decide) (fun c_1 => ?_) (fun c_1 => ?_)
      · have hf := br_pos c_1 hf
        refine lv_aload_n hx hb dX4_ticksOn_36 rfl (lv_at hl 0 rfl) ?_
        refine lv_iconst (v := 1) hx hb dX4_ticksOn_37 (by decide) ?_
        refine lv_dup2_11 hx hb dX4_ticksOn_38 rfl rfl ?_
        refine x_iald hx hb hK hP 0 0 rfl rfl (vl rfl) 1 rfl dX4_ticksOn_39 ?_
        refine lv_iconst (v := 1) hx hb dX4_ticksOn_40 (by decide) ?_
        refine lv_iadd hx hb dX4_ticksOn_41 ?_
        refine x_iast hx hb hK hP hD hS 0 0 rfl rfl (vl rfl) 1 rfl [(b0, .inl (cI, 220, .inl (upd S 1 ((S 1) + 1))))] rfl dX4_ticksOn_42 (fun H locs hP hD hS => ?_)
        refine lv_iinc (v := (v3 + 1)) (lv' := [(3, .int (v3 + 1)), (0, .ref b0), (1, .int p1), (2, .int v2), (4, .int v4)]) hx hb dX4_ticksOn_43 hl (k := 3) rfl rfl (by decide) rfl (fun ls hl => ?_)
        refine lv_goto (tgt := 8) hx hb dX4_ticksOn_46 (by decide) ?_
        exact hk8 v2 (v3 + 1) (upd S 1 ((S 1) + 1)) _ _ _ hf hP hD hS (lv_sub hl [1, 2, 3, 0] rfl)
      · have hf := br_neg c_1 hf
        refine lv_aload_n hx hb dX4_ticksOn_24 rfl (lv_at hl 0 rfl) ?_
        refine lv_iload hx hb dX4_ticksOn_25 (lv_at hl 4 rfl) ?_
        obtain ⟨q, h_2, hf⟩ := bd_some hf
        obtain ⟨S_3, rfl⟩ : ∃ z, z = q := ⟨_, rfl⟩
        try dsimp only at hf
        refine cl_v (ws := [(b0, .inl (cI, 220, .inl S))]) (wc := [(b0, .inl (cI, 220, .inl S))]) (wr := []) (w1 := [(b0, .inl (cI, 220, .inl S_3))]) (ws' := [(b0, .inl (cI, 220, .inl S_3))]) hP hD hS hA [0] [] [0] rfl rfl (by decide) (by decide) rfl (by decide) (va_runS (As := [.ref b0, .int v4]) (rest := []) ⟨hx, hb, hml, hown, hts⟩ (kX4_acts l D cI cB cL b0 _ S v4 S_3 h_2) (va_cwS 2 hts gX4_ticksOn_X4_acts rfl rfl rfl (by decide +kernel) ⟨Nat.le_of_ble_eq_true rfl, Nat.le_of_ble_eq_true rfl⟩) (pre_S hK hE hP hD hS hA [0] rfl (by decide)) rfl rfl hl.1 rfl (lv_room (Nat.le_of_ble_eq_true rfl)) dX4_ticksOn_27 ⟨Nat.le_of_ble_eq_true rfl, Nat.le_of_ble_eq_true rfl⟩) (fun H locs hP hD hS => ?_)
        refine lv_iinc (v := (v4 + 1)) (lv' := [(4, .int (v4 + 1)), (0, .ref b0), (1, .int p1), (2, .int v2), (3, .int v3)]) hx hb dX4_ticksOn_30 hl (k := 4) rfl rfl (by decide) rfl (fun ls hl => ?_)
        refine lv_goto (tgt := 16) hx hb dX4_ticksOn_33 (by decide) ?_
        exact ih v2 v3 (v4 + 1) S_3 _ _ _ hf hP hD hS (lv_sub hl [1, 2, 3, 4, 0] rfl)
  have g8 : ∀ (n : Nat) (v2 : Int32) (v3 : Int32) (S : Nat → Int32) (H : Heap) (locs : List Loc) (ls : Array Slot), fX4_ticksOn_8 p1 n v2 v3 S = some (w, S') → va_P D vwCl [(b0, .inl (cI, 220, .inl S))] H → va_D A [(b0, .inl (cI, 220, .inl S))] → va_S A s.heap H locs → lv_has ls 5 [(0, .ref b0), (1, .int p1), (2, .int v2), (3, .int v3)] → W p l e rmX4_ticksOn s m args below meth c H locs 0 0 Q (F0 m 8 ls []) := by
    intro  n
    induction n with
    | zero =>
      intro v2 v3 S H locs ls hf
      exact absurd hf (by rw [fX4_ticksOn_8]; simp)
    | succ n ih =>
      intro v2 v3 S H locs ls hf hP hD hS hl
      rw [fX4_ticksOn_8] at hf
      refine lv_iload_n hx hb dX4_ticksOn_8 rfl (lv_at hl 3 rfl) ?_
      refine lv_iload_n hx hb dX4_ticksOn_9 rfl (lv_at hl 1 rfl) ?_
      refine lv_icmp_ge (tgt := 49) hx hb dX4_ticksOn_10 (by decide) (fun c_4 => ?_) (fun c_4 => ?_)
      · have hf := br_pos c_4 hf
        refine lv_aload_n hx hb dX4_ticksOn_49 rfl (lv_at hl 0 rfl) ?_
        refine lv_iconst (v := 2) hx hb dX4_ticksOn_50 (by decide) ?_
        obtain ⟨q, h_5, hf⟩ := bd_some hf
        obtain ⟨r_6, rfl⟩ : ∃ z, z = q := ⟨_, rfl⟩
        try dsimp only at hf
        refine cl_i (ws := [(b0, .inl (cI, 220, .inl S))]) (wc := [(b0, .inl (cI, 220, .inl S))]) (wr := []) (w1 := [(b0, .inl (cI, 220, .inl S))]) (ws' := [(b0, .inl (cI, 220, .inl S))]) hP hD hS hA [0] [] [0] rfl rfl (by decide) (by decide) rfl (by decide) (va_runS (As := [.ref b0, .int 2]) (rest := []) ⟨hx, hb, hml, hown, hts⟩ (kX4_count l D cI cB cL b0 _ S 2 r_6 h_5) (va_cwS 2 hts gX4_ticksOn_X4_count rfl rfl rfl (by decide +kernel) ⟨Nat.le_of_ble_eq_true rfl, Nat.le_of_ble_eq_true rfl⟩) (pre_S hK hE hP hD hS hA [0] rfl (by decide)) rfl rfl hl.1 rfl (lv_room (Nat.le_of_ble_eq_true rfl)) dX4_ticksOn_51 ⟨Nat.le_of_ble_eq_true rfl, Nat.le_of_ble_eq_true rfl⟩) (fun H locs hP hD hS => ?_)
        refine lv_iload_n hx hb dX4_ticksOn_54 rfl (lv_at hl 2 rfl) ?_
        refine lv_isub hx hb dX4_ticksOn_55 ?_
        cases hf
        exact rt_i hQ hx hb hr hlocks hP hD hS dX4_ticksOn_56
      · have hf := br_neg c_4 hf
        refine lv_iconst (v := 0) hx hb dX4_ticksOn_13 (by decide) ?_
        refine lv_istore (lv' := [(4, .int 0), (0, .ref b0), (1, .int p1), (2, .int v2), (3, .int v3)]) hx hb dX4_ticksOn_14 hl (by decide) rfl (fun ls hl => ?_)
        exact g16 (fX4_ticksOn_8 p1 n) ih 5000 v2 v3 0 S _ _ _ hf hP hD hS (lv_sub hl [1, 2, 3, 4, 0] rfl)
  unfold fX4_ticksOn at hf
  refine lv_aload_n hx hb dX4_ticksOn_0 rfl (lv_at hl 0 rfl) ?_
  refine lv_iconst (v := 2) hx hb dX4_ticksOn_1 (by decide) ?_
  obtain ⟨q, h_7, hf⟩ := bd_some hf
  obtain ⟨r_8, rfl⟩ : ∃ z, z = q := ⟨_, rfl⟩
  try dsimp only at hf
  refine cl_i (ws := [(b0, .inl (cI, 220, .inl S))]) (wc := [(b0, .inl (cI, 220, .inl S))]) (wr := []) (w1 := [(b0, .inl (cI, 220, .inl S))]) (ws' := [(b0, .inl (cI, 220, .inl S))]) hP hD hS hA [0] [] [0] rfl rfl (by decide) (by decide) rfl (by decide) (va_runS (As := [.ref b0, .int 2]) (rest := []) ⟨hx, hb, hml, hown, hts⟩ (kX4_count l D cI cB cL b0 _ S 2 r_8 h_7) (va_cwS 2 hts gX4_ticksOn_X4_count rfl rfl rfl (by decide +kernel) ⟨Nat.le_of_ble_eq_true rfl, Nat.le_of_ble_eq_true rfl⟩) (pre_S hK hE hP hD hS hA [0] rfl (by decide)) rfl rfl hl.1 rfl (lv_room (Nat.le_of_ble_eq_true rfl)) dX4_ticksOn_2 ⟨Nat.le_of_ble_eq_true rfl, Nat.le_of_ble_eq_true rfl⟩) (fun H locs hP hD hS => ?_)
  refine lv_istore_n (lv' := [(2, .int r_8), (0, .ref b0), (1, .int p1)]) hx hb dX4_ticksOn_5 rfl hl (by decide) rfl (fun ls hl => ?_)
  refine lv_iconst (v := 0) hx hb dX4_ticksOn_6 (by decide) ?_
  refine lv_istore_n (lv' := [(3, .int 0), (2, .int r_8), (0, .ref b0), (1, .int p1)]) hx hb dX4_ticksOn_7 rfl hl (by decide) rfl (fun ls hl => ?_)
  exact g8 5000 r_8 0 S _ _ _ hf hP hD hS (lv_sub hl [2, 3, 1, 0] rfl)
abbrev rmX4_hatchOn : Room := ({ frames := 2, cells := 0, slots := 0, locals := 23 })
set_option maxHeartbeats 4000000 in
set_option maxRecDepth 100000 in
theorem kX4_hatchOn (l : Launch) (D : va_G) (cI cB cL : ClassId) (b0 : Nat) (sz : Nat) (S : Nat → Int32) (p1 : Int32) (p2 : Int32) (p3 : Int32) (w : Int32) (S' : Nat → Int32) (hf : fX4_hatchOn S p1 p2 p3 = some (w, S')) : Met l yX4_hatchOn wsX4_hatchOn rmX4_hatchOn (mPc D (tyK cI cB cL) [.ref b0, .int p1, .int p2, .int p3] sz [(b0, .inl (cI, 220, .inl S))]) (mQi D w [(b0, .inl (cI, 220, .inl S'))] (va_A [(b0, .inl (cI, 220, .inl S))] sz)) 0 0 (va_A [(b0, .inl (cI, 220, .inl S))] sz) := by
  refine m_of (Qf := mQi D w [(b0, .inl (cI, 220, .inl S'))]) (cc := cX4_hatchOn) (maxL := 6) (ret := (some .int)) (by decide) rfl (Nat.le_of_ble_eq_true rfl) ?_
  intro p e s m args below meth c A ls hsz hx hb hr hml hown hts hlocks hP hK hD hS hA hE hin hl Q hQ
  subst hsz
  have hl : lv_has ls 6 [(0, .ref b0), (1, .int p1), (2, .int p2), (3, .int p3)] := hl
  have hown : s.vm.findClass RX4 = some m.cls := hown
  have hl0 := hl
  have g8 : ∀ (n : Nat) (v4 : Int32) (v5 : Int32) (S : Nat → Int32) (H : Heap) (locs : List Loc) (ls : Array Slot), fX4_hatchOn_8 p1 p2 p3 n v4 v5 S = some (w, S') → va_P D vwCl [(b0, .inl (cI, 220, .inl S))] H → va_D A [(b0, .inl (cI, 220, .inl S))] → va_S A s.heap H locs → lv_has ls 6 [(0, .ref b0), (1, .int p1), (2, .int p2), (3, .int p3), (4, .int v4), (5, .int v5)] → W p l e rmX4_hatchOn s m args below meth c H locs 0 0 Q (F0 m 8 ls []) := by
    intro  n
    induction n with
    | zero =>
      intro v4 v5 S H locs ls hf
      exact absurd hf (by rw [fX4_hatchOn_8]; simp)
    | succ n ih =>
      intro v4 v5 S H locs ls hf hP hD hS hl
      rw [fX4_hatchOn_8] at hf
      refine lv_iload hx hb dX4_hatchOn_8 (lv_at hl 5 rfl) ?_
      refine lv_bipush (v := 18) hx hb dX4_hatchOn_10 (by decide) ?_
      refine lv_icmp_ge (tgt := 30) hx hb dX4_hatchOn_12 (by decide) (fun c_1 => ?_) (fun c_1 => ?_)
      · have hf := br_pos c_1 hf
        refine lv_aload_n hx hb dX4_hatchOn_30 rfl (lv_at hl 0 rfl) ?_
        refine lv_iload hx hb dX4_hatchOn_31 (lv_at hl 4 rfl) ?_
        refine lv_iconst (v := 2) hx hb dX4_hatchOn_33 (by decide) ?_
        refine lv_iload_n hx hb dX4_hatchOn_34 rfl (lv_at hl 3 rfl) ?_
        obtain ⟨q, h_2, hf⟩ := bd_some hf
        obtain ⟨S_3, rfl⟩ : ∃ z, z = q := ⟨_, rfl⟩
        try dsimp only at hf
        refine cl_v (ws := [(b0, .inl (cI, 220, .inl S))]) (wc := [(b0, .inl (cI, 220, .inl S))]) (wr := []) (w1 := [(b0, .inl (cI, 220, .inl S_3))]) (ws' := [(b0, .inl (cI, 220, .inl S_3))]) hP hD hS hA [0] [] [0] rfl rfl (by decide) (by decide) rfl (by decide) (va_runS (As := [.ref b0, .int v4, .int 2, .int p3]) (rest := []) ⟨hx, hb, hml, hown, hts⟩ (kX4_lay l D cI cB cL b0 _ S v4 2 p3 S_3 h_2) (va_cwS 4 hts gX4_hatchOn_X4_lay rfl rfl rfl (by decide +kernel) ⟨Nat.le_of_ble_eq_true rfl, Nat.le_of_ble_eq_true rfl⟩) (pre_S hK hE hP hD hS hA [0] rfl (by decide)) rfl rfl hl.1 rfl (lv_room (Nat.le_of_ble_eq_true rfl)) dX4_hatchOn_35 ⟨Nat.le_of_ble_eq_true rfl, Nat.le_of_ble_eq_true rfl⟩) (fun H locs hP hD hS => ?_)
        refine lv_aload_n hx hb dX4_hatchOn_38 rfl (lv_at hl 0 rfl) ?_
        refine lv_iload hx hb dX4_hatchOn_39 (lv_at hl 4 rfl) ?_
        refine lv_iconst (v := 5) hx hb dX4_hatchOn_41 (by decide) ?_
        refine lv_iconst (v := (-1)) hx hb dX4_hatchOn_42 (by decide) ?_
        obtain ⟨q, h_4, hf⟩ := bd_some hf
        obtain ⟨S_5, rfl⟩ : ∃ z, z = q := ⟨_, rfl⟩
        try dsimp only at hf
        refine cl_v (ws := [(b0, .inl (cI, 220, .inl S_3))]) (wc := [(b0, .inl (cI, 220, .inl S_3))]) (wr := []) (w1 := [(b0, .inl (cI, 220, .inl S_5))]) (ws' := [(b0, .inl (cI, 220, .inl S_5))]) hP hD hS hA [0] [] [0] rfl rfl (by decide) (by decide) rfl (by decide) (va_runS (As := [.ref b0, .int v4, .int 5, .int (-1)]) (rest := []) ⟨hx, hb, hml, hown, hts⟩ (kX4_lay l D cI cB cL b0 _ S_3 v4 5 (-1) S_5 h_4) (va_cwS 4 hts gX4_hatchOn_X4_lay rfl rfl rfl (by decide +kernel) ⟨Nat.le_of_ble_eq_true rfl, Nat.le_of_ble_eq_true rfl⟩) (pre_S hK hE hP hD hS hA [0] rfl (by decide)) rfl rfl hl.1 rfl (lv_room (Nat.le_of_ble_eq_true rfl)) dX4_hatchOn_43 ⟨Nat.le_of_ble_eq_true rfl, Nat.le_of_ble_eq_true rfl⟩) (fun H locs hP hD hS => ?_)
        refine lv_aload_n hx hb dX4_hatchOn_46 rfl (lv_at hl 0 rfl) ?_
        refine lv_iload hx hb dX4_hatchOn_47 (lv_at hl 4 rfl) ?_
        refine lv_bipush (v := 6) hx hb dX4_hatchOn_49 (by decide) ?_
        refine lv_iload_n hx hb dX4_hatchOn_51 rfl (lv_at hl 1 rfl) ?_
        obtain ⟨q, h_6, hf⟩ := bd_some hf
        obtain ⟨S_7, rfl⟩ : ∃ z, z = q := ⟨_, rfl⟩
        try dsimp only at hf
        refine cl_v (ws := [(b0, .inl (cI, 220, .inl S_5))]) (wc := [(b0, .inl (cI, 220, .inl S_5))]) (wr := []) (w1 := [(b0, .inl (cI, 220, .inl S_7))]) (ws' := [(b0, .inl (cI, 220, .inl S_7))]) hP hD hS hA [0] [] [0] rfl rfl (by decide) (by decide) rfl (by decide) (va_runS (As := [.ref b0, .int v4, .int 6, .int p1]) (rest := []) ⟨hx, hb, hml, hown, hts⟩ (kX4_lay l D cI cB cL b0 _ S_5 v4 6 p1 S_7 h_6) (va_cwS 4 hts gX4_hatchOn_X4_lay rfl rfl rfl (by decide +kernel) ⟨Nat.le_of_ble_eq_true rfl, Nat.le_of_ble_eq_true rfl⟩) (pre_S hK hE hP hD hS hA [0] rfl (by decide)) rfl rfl hl.1 rfl (lv_room (Nat.le_of_ble_eq_true rfl)) dX4_hatchOn_52 ⟨Nat.le_of_ble_eq_true rfl, Nat.le_of_ble_eq_true rfl⟩) (fun H locs hP hD hS => ?_)
        refine lv_aload_n hx hb dX4_hatchOn_55 rfl (lv_at hl 0 rfl) ?_
        refine lv_iload hx hb dX4_hatchOn_56 (lv_at hl 4 rfl) ?_
        refine lv_bipush (v := 7) hx hb dX4_hatchOn_58 (by decide) ?_
        refine lv_iload_n hx hb dX4_hatchOn_60 rfl (lv_at hl 2 rfl) ?_
        obtain ⟨q, h_8, hf⟩ := bd_some hf
        obtain ⟨S_9, rfl⟩ : ∃ z, z = q := ⟨_, rfl⟩
        try dsimp only at hf
        refine cl_v (ws := [(b0, .inl (cI, 220, .inl S_7))]) (wc := [(b0, .inl (cI, 220, .inl S_7))]) (wr := []) (w1 := [(b0, .inl (cI, 220, .inl S_9))]) (ws' := [(b0, .inl (cI, 220, .inl S_9))]) hP hD hS hA [0] [] [0] rfl rfl (by decide) (by decide) rfl (by decide) (va_runS (As := [.ref b0, .int v4, .int 7, .int p2]) (rest := []) ⟨hx, hb, hml, hown, hts⟩ (kX4_lay l D cI cB cL b0 _ S_7 v4 7 p2 S_9 h_8) (va_cwS 4 hts gX4_hatchOn_X4_lay rfl rfl rfl (by decide +kernel) ⟨Nat.le_of_ble_eq_true rfl, Nat.le_of_ble_eq_true rfl⟩) (pre_S hK hE hP hD hS hA [0] rfl (by decide)) rfl rfl hl.1 rfl (lv_room (Nat.le_of_ble_eq_true rfl)) dX4_hatchOn_61 ⟨Nat.le_of_ble_eq_true rfl, Nat.le_of_ble_eq_true rfl⟩) (fun H locs hP hD hS => ?_)
        refine lv_aload_n hx hb dX4_hatchOn_64 rfl (lv_at hl 0 rfl) ?_
        refine lv_iload hx hb dX4_hatchOn_65 (lv_at hl 4 rfl) ?_
        refine lv_bipush (v := 8) hx hb dX4_hatchOn_67 (by decide) ?_
        refine lv_iload_n hx hb dX4_hatchOn_69 rfl (lv_at hl 3 rfl) ?_
        obtain ⟨q, h_10, hf⟩ := bd_some hf
        obtain ⟨S_11, rfl⟩ : ∃ z, z = q := ⟨_, rfl⟩
        try dsimp only at hf
        refine cl_v (ws := [(b0, .inl (cI, 220, .inl S_9))]) (wc := [(b0, .inl (cI, 220, .inl S_9))]) (wr := []) (w1 := [(b0, .inl (cI, 220, .inl S_11))]) (ws' := [(b0, .inl (cI, 220, .inl S_11))]) hP hD hS hA [0] [] [0] rfl rfl (by decide) (by decide) rfl (by decide) (va_runS (As := [.ref b0, .int v4, .int 8, .int p3]) (rest := []) ⟨hx, hb, hml, hown, hts⟩ (kX4_lay l D cI cB cL b0 _ S_9 v4 8 p3 S_11 h_10) (va_cwS 4 hts gX4_hatchOn_X4_lay rfl rfl rfl (by decide +kernel) ⟨Nat.le_of_ble_eq_true rfl, Nat.le_of_ble_eq_true rfl⟩) (pre_S hK hE hP hD hS hA [0] rfl (by decide)) rfl rfl hl.1 rfl (lv_room (Nat.le_of_ble_eq_true rfl)) dX4_hatchOn_70 ⟨Nat.le_of_ble_eq_true rfl, Nat.le_of_ble_eq_true rfl⟩) (fun H locs hP hD hS => ?_)
        refine lv_aload_n hx hb dX4_hatchOn_73 rfl (lv_at hl 0 rfl) ?_
        refine lv_iconst (v := 0) hx hb dX4_hatchOn_74 (by decide) ?_
        refine lv_dup2_11 hx hb dX4_hatchOn_75 rfl rfl ?_
        refine x_iald hx hb hK hP 0 0 rfl rfl (vl rfl) 0 rfl dX4_hatchOn_76 ?_
        refine lv_iconst (v := 1) hx hb dX4_hatchOn_77 (by decide) ?_
        refine lv_iadd hx hb dX4_hatchOn_78 ?_
        refine x_iast hx hb hK hP hD hS 0 0 rfl rfl (vl rfl) 0 rfl [(b0, .inl (cI, 220, .inl (upd S_11 0 ((S_11 0) + 1))))] rfl dX4_hatchOn_79 (fun H locs hP hD hS => ?_)
        refine lv_iload hx hb dX4_hatchOn_80 (lv_at hl 4 rfl) ?_
        cases hf
        exact rt_i hQ hx hb hr hlocks hP hD hS dX4_hatchOn_82
      · have hf := br_neg c_1 hf
        refine lv_aload_n hx hb dX4_hatchOn_15 rfl (lv_at hl 0 rfl) ?_
        refine lv_iload hx hb dX4_hatchOn_16 (lv_at hl 4 rfl) ?_
        refine lv_iload hx hb dX4_hatchOn_18 (lv_at hl 5 rfl) ?_
        refine lv_iconst (v := 0) hx hb dX4_hatchOn_20 (by decide) ?_
        obtain ⟨q, h_12, hf⟩ := bd_some hf
        obtain ⟨S_13, rfl⟩ : ∃ z, z = q := ⟨_, rfl⟩
        try dsimp only at hf
        refine cl_v (ws := [(b0, .inl (cI, 220, .inl S))]) (wc := [(b0, .inl (cI, 220, .inl S))]) (wr := []) (w1 := [(b0, .inl (cI, 220, .inl S_13))]) (ws' := [(b0, .inl (cI, 220, .inl S_13))]) hP hD hS hA [0] [] [0] rfl rfl (by decide) (by decide) rfl (by decide) (va_runS (As := [.ref b0, .int v4, .int v5, .int 0]) (rest := []) ⟨hx, hb, hml, hown, hts⟩ (kX4_lay l D cI cB cL b0 _ S v4 v5 0 S_13 h_12) (va_cwS 4 hts gX4_hatchOn_X4_lay rfl rfl rfl (by decide +kernel) ⟨Nat.le_of_ble_eq_true rfl, Nat.le_of_ble_eq_true rfl⟩) (pre_S hK hE hP hD hS hA [0] rfl (by decide)) rfl rfl hl.1 rfl (lv_room (Nat.le_of_ble_eq_true rfl)) dX4_hatchOn_21 ⟨Nat.le_of_ble_eq_true rfl, Nat.le_of_ble_eq_true rfl⟩) (fun H locs hP hD hS => ?_)
        refine lv_iinc (v := (v5 + 1)) (lv' := [(5, .int (v5 + 1)), (0, .ref b0), (1, .int p1), (2, .int p2), (3, .int p3), (4, .int v4)]) hx hb dX4_hatchOn_24 hl (k := 5) rfl rfl (by decide) rfl (fun ls hl => ?_)
        refine lv_goto (tgt := 8) hx hb dX4_hatchOn_27 (by decide) ?_
        exact ih v4 (v5 + 1) S_13 _ _ _ hf hP hD hS (lv_sub hl [1, 2, 3, 4, 5, 0] rfl)
  unfold fX4_hatchOn at hf
  refine lv_aload_n hx hb dX4_hatchOn_0 rfl (lv_at hl 0 rfl) ?_
  refine lv_iconst (v := 0) hx hb dX4_hatchOn_1 (by decide) ?_
  refine x_iald hx hb hK hP 0 0 rfl rfl (vl rfl) 0 rfl dX4_hatchOn_2 ?_
  refine lv_istore (lv' := [(4, .int (S 0)), (0, .ref b0), (1, .int p1), (2, .int p2), (3, .int p3)]) hx hb dX4_hatchOn_3 hl (by decide) rfl (fun ls hl => ?_)
  refine lv_iconst (v := 0) hx hb dX4_hatchOn_5 (by decide) ?_
  refine lv_istore (lv' := [(5, .int 0), (4, .int (S 0)), (0, .ref b0), (1, .int p1), (2, .int p2), (3, .int p3)]) hx hb dX4_hatchOn_6 hl (by decide) rfl (fun ls hl => ?_)
  exact g8 5000 (S 0) 0 S _ _ _ hf hP hD hS (lv_sub hl [2, 3, 4, 5, 1, 0] rfl)
abbrev rmX4_canHatch : Room := ({ frames := 3, cells := 0, slots := 0, locals := 45 })
set_option maxHeartbeats 4000000 in
set_option maxRecDepth 100000 in
theorem kX4_canHatch (l : Launch) (D : va_G) (cI cB cL : ClassId) (b0 : Nat) (sz : Nat) (S : Nat → Int32) (p1 : Int32) (p2 : Int32) (p3 : Int32) (w : Int32) (hf : fX4_canHatch S p1 p2 p3 = some w) : Met l yX4_canHatch wsX4_canHatch rmX4_canHatch (mPc D (tyK cI cB cL) [.ref b0, .int p1, .int p2, .int p3] sz [(b0, .inl (cI, 220, .inl S))]) (mQi D w [(b0, .inl (cI, 220, .inl S))] (va_A [(b0, .inl (cI, 220, .inl S))] sz)) 0 0 (va_A [(b0, .inl (cI, 220, .inl S))] sz) := by
  refine m_of (Qf := mQi D w [(b0, .inl (cI, 220, .inl S))]) (cc := cX4_canHatch) (maxL := 4) (ret := (some .boolean)) (by decide) rfl (Nat.le_of_ble_eq_true rfl) ?_
  intro p e s m args below meth c A ls hsz hx hb hr hml hown hts hlocks hP hK hD hS hA hE hin hl Q hQ
  subst hsz
  have hl : lv_has ls 4 [(0, .ref b0), (1, .int p1), (2, .int p2), (3, .int p3)] := hl
  have hown : s.vm.findClass RX4 = some m.cls := hown
  unfold fX4_canHatch at hf
  refine lv_iload_n hx hb dX4_canHatch_0 rfl (lv_at hl 1 rfl) ?_
  obtain ⟨q, h_1, hf⟩ := bd_some hf
  obtain ⟨r_2, rfl⟩ : ∃ z, z = q := ⟨_, rfl⟩
  try dsimp only at hf
  refine cl_i (ws := [(b0, .inl (cI, 220, .inl S))]) (wc := []) (wr := [(b0, .inl (cI, 220, .inl S))]) (w1 := []) (ws' := [(b0, .inl (cI, 220, .inl S))]) hP hD hS hA [] [0] [0] rfl rfl (by decide) (by decide) rfl (by decide) (va_runS (As := [.int p1]) (rest := []) ⟨hx, hb, hml, hown, hts⟩ (kX4_isRoom l D cI cB cL _ p1 r_2 h_1) (va_cwS 1 hts gX4_canHatch_X4_isRoom rfl rfl rfl (by decide +kernel) ⟨Nat.le_of_ble_eq_true rfl, Nat.le_of_ble_eq_true rfl⟩) (pre_S hK hE hP hD hS hA [] rfl (by decide)) rfl rfl hl.1 rfl (lv_room (Nat.le_of_ble_eq_true rfl)) dX4_canHatch_1 ⟨Nat.le_of_ble_eq_true rfl, Nat.le_of_ble_eq_true rfl⟩) (fun H locs hP hD hS => ?_)
  refine lv_if_eq (tgt := 33) hx hb dX4_canHatch_4 (by decide) (fun c_3 => ?_) (fun c_3 => ?_)
  · have hf := br_pos c_3 hf
    refine lv_iconst (v := 0) hx hb dX4_canHatch_33 (by decide) ?_
    cases hf
    exact rt_z hQ hx hb hr rfl hlocks hP hD hS dX4_canHatch_34
  · have hf := br_neg c_3 hf
    refine lv_iload_n hx hb dX4_canHatch_7 rfl (lv_at hl 2 rfl) ?_
    obtain ⟨q, h_4, hf⟩ := bd_some hf
    obtain ⟨r_5, rfl⟩ : ∃ z, z = q := ⟨_, rfl⟩
    try dsimp only at hf
    refine cl_i (ws := [(b0, .inl (cI, 220, .inl S))]) (wc := []) (wr := [(b0, .inl (cI, 220, .inl S))]) (w1 := []) (ws' := [(b0, .inl (cI, 220, .inl S))]) hP hD hS hA [] [0] [0] rfl rfl (by decide) (by decide) rfl (by decide) (va_runS (As := [.int p2]) (rest := []) ⟨hx, hb, hml, hown, hts⟩ (kX4_isRoom l D cI cB cL _ p2 r_5 h_4) (va_cwS 1 hts gX4_canHatch_X4_isRoom rfl rfl rfl (by decide +kernel) ⟨Nat.le_of_ble_eq_true rfl, Nat.le_of_ble_eq_true rfl⟩) (pre_S hK hE hP hD hS hA [] rfl (by decide)) rfl rfl hl.1 rfl (lv_room (Nat.le_of_ble_eq_true rfl)) dX4_canHatch_8 ⟨Nat.le_of_ble_eq_true rfl, Nat.le_of_ble_eq_true rfl⟩) (fun H locs hP hD hS => ?_)
    refine lv_if_eq (tgt := 33) hx hb dX4_canHatch_11 (by decide) (fun c_6 => ?_) (fun c_6 => ?_)
    · have hf := br_pos c_6 hf
      refine lv_iconst (v := 0) hx hb dX4_canHatch_33 (by decide) ?_
      cases hf
      exact rt_z hQ hx hb hr rfl hlocks hP hD hS dX4_canHatch_34
    · have hf := br_neg c_6 hf
      refine lv_iload_n hx hb dX4_canHatch_14 rfl (lv_at hl 3 rfl) ?_
      obtain ⟨q, h_7, hf⟩ := bd_some hf
      obtain ⟨r_8, rfl⟩ : ∃ z, z = q := ⟨_, rfl⟩
      try dsimp only at hf
      refine cl_i (ws := [(b0, .inl (cI, 220, .inl S))]) (wc := []) (wr := [(b0, .inl (cI, 220, .inl S))]) (w1 := []) (ws' := [(b0, .inl (cI, 220, .inl S))]) hP hD hS hA [] [0] [0] rfl rfl (by decide) (by decide) rfl (by decide) (va_runS (As := [.int p3]) (rest := []) ⟨hx, hb, hml, hown, hts⟩ (kX4_isLength l D cI cB cL _ p3 r_8 h_7) (va_cwS 1 hts gX4_canHatch_X4_isLength rfl rfl rfl (by decide +kernel) ⟨Nat.le_of_ble_eq_true rfl, Nat.le_of_ble_eq_true rfl⟩) (pre_S hK hE hP hD hS hA [] rfl (by decide)) rfl rfl hl.1 rfl (lv_room (Nat.le_of_ble_eq_true rfl)) dX4_canHatch_15 ⟨Nat.le_of_ble_eq_true rfl, Nat.le_of_ble_eq_true rfl⟩) (fun H locs hP hD hS => ?_)
      refine lv_if_eq (tgt := 33) hx hb dX4_canHatch_18 (by decide) (fun c_9 => ?_) (fun c_9 => ?_)
      · have hf := br_pos c_9 hf
        refine lv_iconst (v := 0) hx hb dX4_canHatch_33 (by decide) ?_
        cases hf
        exact rt_z hQ hx hb hr rfl hlocks hP hD hS dX4_canHatch_34
      · have hf := br_neg c_9 hf
        refine lv_aload_n hx hb dX4_canHatch_21 rfl (lv_at hl 0 rfl) ?_
        refine lv_iconst (v := 0) hx hb dX4_canHatch_22 (by decide) ?_
        refine x_iald hx hb hK hP 0 0 rfl rfl (vl rfl) 0 rfl dX4_canHatch_23 ?_
        refine lv_bipush (v := 10) hx hb dX4_canHatch_24 (by decide) ?_
        refine lv_icmp_ge (tgt := 33) hx hb dX4_canHatch_26 (by decide) (fun c_10 => ?_) (fun c_10 => ?_)
        · have hf := br_pos c_10 hf
          refine lv_iconst (v := 0) hx hb dX4_canHatch_33 (by decide) ?_
          cases hf
          exact rt_z hQ hx hb hr rfl hlocks hP hD hS dX4_canHatch_34
        · have hf := br_neg c_10 hf
          refine lv_iconst (v := 1) hx hb dX4_canHatch_29 (by decide) ?_
          refine lv_goto (tgt := 34) hx hb dX4_canHatch_30 (by decide) ?_
          cases hf
          exact rt_z hQ hx hb hr rfl hlocks hP hD hS dX4_canHatch_34
abbrev rmX4_ruleOn : Room := ({ frames := 1, cells := 0, slots := 0, locals := 0 })
set_option maxHeartbeats 4000000 in
set_option maxRecDepth 100000 in
theorem kX4_ruleOn (l : Launch) (D : va_G) (cI cB cL : ClassId) (b0 : Nat) (sz : Nat) (S : Nat → Int32) (p1 : Int32) (w : Int32) (S' : Nat → Int32) (hf : fX4_ruleOn S p1 = some (w, S')) : Met l yX4_ruleOn wsX4_ruleOn rmX4_ruleOn (mPc D (tyK cI cB cL) [.ref b0, .int p1] sz [(b0, .inl (cI, 220, .inl S))]) (mQi D w [(b0, .inl (cI, 220, .inl S'))] (va_A [(b0, .inl (cI, 220, .inl S))] sz)) 0 0 (va_A [(b0, .inl (cI, 220, .inl S))] sz) := by
  refine m_of (Qf := mQi D w [(b0, .inl (cI, 220, .inl S'))]) (cc := cX4_ruleOn) (maxL := 3) (ret := (some .int)) (by decide) rfl (Nat.le_of_ble_eq_true rfl) ?_
  intro p e s m args below meth c A ls hsz hx hb hr hml hown hts hlocks hP hK hD hS hA hE hin hl Q hQ
  subst hsz
  have hl : lv_has ls 3 [(0, .ref b0), (1, .int p1)] := hl
  have hown : s.vm.findClass RX4 = some m.cls := hown
  unfold fX4_ruleOn at hf
  refine lv_aload_n hx hb dX4_ruleOn_0 rfl (lv_at hl 0 rfl) ?_
  refine lv_iconst (v := 2) hx hb dX4_ruleOn_1 (by decide) ?_
  refine x_iald hx hb hK hP 0 0 rfl rfl (vl rfl) 2 rfl dX4_ruleOn_2 ?_
  refine lv_istore_n (lv' := [(2, .int (S 2)), (0, .ref b0), (1, .int p1)]) hx hb dX4_ruleOn_3 rfl hl (by decide) rfl (fun ls hl => ?_)
  refine lv_aload_n hx hb dX4_ruleOn_4 rfl (lv_at hl 1 rfl) ?_
  refine lv_iconst (v := 2) hx hb dX4_ruleOn_5 (by decide) ?_
  refine lv_iload_n hx hb dX4_ruleOn_6 rfl (lv_at hl 2 rfl) ?_
  refine x_iast hx hb hK hP hD hS 0 0 rfl rfl (vl rfl) 2 rfl [(b0, .inl (cI, 220, .inl (upd S 2 p1)))] rfl dX4_ruleOn_7 (fun H locs hP hD hS => ?_)
  refine lv_iload_n hx hb dX4_ruleOn_8 rfl (lv_at hl 0 rfl) ?_
  cases hf
  exact rt_i hQ hx hb hr hlocks hP hD hS dX4_ruleOn_9
abbrev rmX4_canShut : Room := ({ frames := 3, cells := 0, slots := 0, locals := 45 })
set_option maxHeartbeats 4000000 in
set_option maxRecDepth 100000 in
theorem kX4_canShut (l : Launch) (D : va_G) (cI cB cL : ClassId) (b0 : Nat) (sz : Nat) (S : Nat → Int32) (p1 : Int32) (p2 : Int32) (w : Int32) (hf : fX4_canShut S p1 p2 = some w) : Met l yX4_canShut wsX4_canShut rmX4_canShut (mPc D (tyK cI cB cL) [.ref b0, .int p1, .int p2] sz [(b0, .inl (cI, 220, .inl S))]) (mQi D w [(b0, .inl (cI, 220, .inl S))] (va_A [(b0, .inl (cI, 220, .inl S))] sz)) 0 0 (va_A [(b0, .inl (cI, 220, .inl S))] sz) := by
  refine m_of (Qf := mQi D w [(b0, .inl (cI, 220, .inl S))]) (cc := cX4_canShut) (maxL := 3) (ret := (some .boolean)) (by decide) rfl (Nat.le_of_ble_eq_true rfl) ?_
  intro p e s m args below meth c A ls hsz hx hb hr hml hown hts hlocks hP hK hD hS hA hE hin hl Q hQ
  subst hsz
  have hl : lv_has ls 3 [(0, .ref b0), (1, .int p1), (2, .int p2)] := hl
  have hown : s.vm.findClass RX4 = some m.cls := hown
  have hl0 := hl
  have g20 : ∀ (H : Heap) (locs : List Loc) (ls : Array Slot), fX4_canShut_20 = some w → va_P D vwCl [(b0, .inl (cI, 220, .inl S))] H → va_D A [(b0, .inl (cI, 220, .inl S))] → va_S A s.heap H locs → lv_has ls 3 [] → W p l e rmX4_canShut s m args below meth c H locs 0 0 Q (F0 m 20 ls []) := by
    intro   H locs ls hf hP hD hS hl
    unfold fX4_canShut_20 at hf
    refine lv_iconst (v := 1) hx hb dX4_canShut_20 (by decide) ?_
    refine lv_goto (tgt := 25) hx hb dX4_canShut_21 (by decide) ?_
    cases hf
    exact rt_z hQ hx hb hr rfl hlocks hP hD hS dX4_canShut_25
  unfold fX4_canShut at hf
  refine lv_iload_n hx hb dX4_canShut_0 rfl (lv_at hl 1 rfl) ?_
  obtain ⟨q, h_1, hf⟩ := bd_some hf
  obtain ⟨r_2, rfl⟩ : ∃ z, z = q := ⟨_, rfl⟩
  try dsimp only at hf
  refine cl_i (ws := [(b0, .inl (cI, 220, .inl S))]) (wc := []) (wr := [(b0, .inl (cI, 220, .inl S))]) (w1 := []) (ws' := [(b0, .inl (cI, 220, .inl S))]) hP hD hS hA [] [0] [0] rfl rfl (by decide) (by decide) rfl (by decide) (va_runS (As := [.int p1]) (rest := []) ⟨hx, hb, hml, hown, hts⟩ (kX4_isRoom l D cI cB cL _ p1 r_2 h_1) (va_cwS 1 hts gX4_canShut_X4_isRoom rfl rfl rfl (by decide +kernel) ⟨Nat.le_of_ble_eq_true rfl, Nat.le_of_ble_eq_true rfl⟩) (pre_S hK hE hP hD hS hA [] rfl (by decide)) rfl rfl hl.1 rfl (lv_room (Nat.le_of_ble_eq_true rfl)) dX4_canShut_1 ⟨Nat.le_of_ble_eq_true rfl, Nat.le_of_ble_eq_true rfl⟩) (fun H locs hP hD hS => ?_)
  refine lv_if_eq (tgt := 24) hx hb dX4_canShut_4 (by decide) (fun c_3 => ?_) (fun c_3 => ?_)
  · have hf := br_pos c_3 hf
    refine lv_iconst (v := 0) hx hb dX4_canShut_24 (by decide) ?_
    cases hf
    exact rt_z hQ hx hb hr rfl hlocks hP hD hS dX4_canShut_25
  · have hf := br_neg c_3 hf
    refine lv_iload_n hx hb dX4_canShut_7 rfl (lv_at hl 2 rfl) ?_
    refine lv_if_eq (tgt := 20) hx hb dX4_canShut_8 (by decide) (fun c_4 => ?_) (fun c_4 => ?_)
    · have hf := br_pos c_4 hf
      exact g20  _ _ _ hf hP hD hS (lv_sub hl [] rfl)
    · have hf := br_neg c_4 hf
      refine lv_aload_n hx hb dX4_canShut_11 rfl (lv_at hl 0 rfl) ?_
      refine lv_iload_n hx hb dX4_canShut_12 rfl (lv_at hl 1 rfl) ?_
      obtain ⟨q, h_5, hf⟩ := bd_some hf
      obtain ⟨r_6, rfl⟩ : ∃ z, z = q := ⟨_, rfl⟩
      try dsimp only at hf
      refine cl_i (ws := [(b0, .inl (cI, 220, .inl S))]) (wc := [(b0, .inl (cI, 220, .inl S))]) (wr := []) (w1 := [(b0, .inl (cI, 220, .inl S))]) (ws' := [(b0, .inl (cI, 220, .inl S))]) hP hD hS hA [0] [] [0] rfl rfl (by decide) (by decide) rfl (by decide) (va_runS (As := [.ref b0, .int p1]) (rest := []) ⟨hx, hb, hml, hown, hts⟩ (kX4_takenBy l D cI cB cL b0 _ S p1 r_6 h_5) (va_cwS 2 hts gX4_canShut_X4_takenBy rfl rfl rfl (by decide +kernel) ⟨Nat.le_of_ble_eq_true rfl, Nat.le_of_ble_eq_true rfl⟩) (pre_S hK hE hP hD hS hA [0] rfl (by decide)) rfl rfl hl.1 rfl (lv_room (Nat.le_of_ble_eq_true rfl)) dX4_canShut_13 ⟨Nat.le_of_ble_eq_true rfl, Nat.le_of_ble_eq_true rfl⟩) (fun H locs hP hD hS => ?_)
      refine lv_iconst (v := (-1)) hx hb dX4_canShut_16 (by decide) ?_
      refine lv_icmp_ne (tgt := 24) hx hb dX4_canShut_17 (by decide) (fun c_7 => ?_) (fun c_7 => ?_)
      · have hf := br_neg c_7 hf
        refine lv_iconst (v := 0) hx hb dX4_canShut_24 (by decide) ?_
        cases hf
        exact rt_z hQ hx hb hr rfl hlocks hP hD hS dX4_canShut_25
      · have hf := br_pos c_7 hf
        exact g20  _ _ _ hf hP hD hS (lv_sub hl [] rfl)
abbrev rmX4_shutOn : Room := ({ frames := 2, cells := 0, slots := 0, locals := 22 })
set_option maxHeartbeats 4000000 in
set_option maxRecDepth 100000 in
theorem kX4_shutOn (l : Launch) (D : va_G) (cI cB cL : ClassId) (b0 : Nat) (sz : Nat) (S : Nat → Int32) (p1 : Int32) (p2 : Int32) (w : Int32) (S' : Nat → Int32) (hf : fX4_shutOn S p1 p2 = some (w, S')) : Met l yX4_shutOn wsX4_shutOn rmX4_shutOn (mPc D (tyK cI cB cL) [.ref b0, .int p1, .int p2] sz [(b0, .inl (cI, 220, .inl S))]) (mQi D w [(b0, .inl (cI, 220, .inl S'))] (va_A [(b0, .inl (cI, 220, .inl S))] sz)) 0 0 (va_A [(b0, .inl (cI, 220, .inl S))] sz) := by
  refine m_of (Qf := mQi D w [(b0, .inl (cI, 220, .inl S'))]) (cc := cX4_shutOn) (maxL := 3) (ret := (some .int)) (by decide) rfl (Nat.le_of_ble_eq_true rfl) ?_
  intro p e s m args below meth c A ls hsz hx hb hr hml hown hts hlocks hP hK hD hS hA hE hin hl Q hQ
  subst hsz
  have hl : lv_has ls 3 [(0, .ref b0), (1, .int p1), (2, .int p2)] := hl
  have hown : s.vm.findClass RX4 = some m.cls := hown
  have hl0 := hl
  have g13 : ∀ (z0 : Int32) (z1 : Int32) (S : Nat → Int32) (H : Heap) (locs : List Loc) (ls : Array Slot), fX4_shutOn_13 z0 z1 S = some (w, S') → va_P D vwCl [(b0, .inl (cI, 220, .inl S))] H → va_D A [(b0, .inl (cI, 220, .inl S))] → va_S A s.heap H locs → lv_has ls 3 [(0, .ref b0)] → W p l e rmX4_shutOn s m args below meth c H locs 0 0 Q (F0 m 13 ls [.int z0, .int z1, .ref b0]) := by
    intro  z0 z1 S H locs ls hf hP hD hS hl
    unfold fX4_shutOn_13 at hf
    obtain ⟨i_1, hf⟩ := gd_some hf
    refine x_iast hx hb hK hP hD hS 0 0 rfl rfl i_1 _ rfl [(b0, .inl (cI, 220, .inl (upd S (z1.toNatClampNeg) z0)))] rfl dX4_shutOn_13 (fun H locs hP hD hS => ?_)
    refine lv_aload_n hx hb dX4_shutOn_14 rfl (lv_at hl 0 rfl) ?_
    obtain ⟨q, h_2, hf⟩ := bd_some hf
    obtain ⟨r_3, rfl⟩ : ∃ z, z = q := ⟨_, rfl⟩
    try dsimp only at hf
    refine cl_i (ws := [(b0, .inl (cI, 220, .inl (upd S (z1.toNatClampNeg) z0)))]) (wc := [(b0, .inl (cI, 220, .inl (upd S (z1.toNatClampNeg) z0)))]) (wr := []) (w1 := [(b0, .inl (cI, 220, .inl (upd S (z1.toNatClampNeg) z0)))]) (ws' := [(b0, .inl (cI, 220, .inl (upd S (z1.toNatClampNeg) z0)))]) hP hD hS hA [0] [] [0] rfl rfl (by decide) (by decide) rfl (by decide) (va_runS (As := [.ref b0]) (rest := []) ⟨hx, hb, hml, hown, hts⟩ (kX4_shutOnes l D cI cB cL b0 _ (upd S (z1.toNatClampNeg) z0) r_3 h_2) (va_cwS 1 hts gX4_shutOn_X4_shutOnes rfl rfl rfl (by decide +kernel) ⟨Nat.le_of_ble_eq_true rfl, Nat.le_of_ble_eq_true rfl⟩) (pre_S hK hE hP hD hS hA [0] rfl (by decide)) rfl rfl hl.1 rfl (lv_room (Nat.le_of_ble_eq_true rfl)) dX4_shutOn_15 ⟨Nat.le_of_ble_eq_true rfl, Nat.le_of_ble_eq_true rfl⟩) (fun H locs hP hD hS => ?_)
    cases hf
    exact rt_i hQ hx hb hr hlocks hP hD hS dX4_shutOn_18
  unfold fX4_shutOn at hf
  refine lv_aload_n hx hb dX4_shutOn_0 rfl (lv_at hl 0 rfl) ?_
  refine lv_iconst (v := 4) hx hb dX4_shutOn_1 (by decide) ?_
  refine lv_iload_n hx hb dX4_shutOn_2 rfl (lv_at hl 1 rfl) ?_
  refine lv_iadd hx hb dX4_shutOn_3 ?_
  refine lv_iload_n hx hb dX4_shutOn_4 rfl (lv_at hl 2 rfl) ?_
  refine lv_if_eq (tgt := 12) hx hb dX4_shutOn_5 (by decide) (fun c_4 => ?_) (fun c_4 => ?_)
  · have hf := br_pos c_4 hf
    refine lv_iconst (v := 0) hx hb dX4_shutOn_12 (by decide) ?_
    exact g13 0 (4 + p1) S _ _ _ hf hP hD hS (lv_sub hl [0] rfl)
  · have hf := br_neg c_4 hf
    refine lv_iconst (v := 1) hx hb dX4_shutOn_8 (by decide) ?_
    refine lv_goto (tgt := 13) hx hb dX4_shutOn_9 (by decide) ?_
    exact g13 1 (4 + p1) S _ _ _ hf hP hD hS (lv_sub hl [0] rfl)
abbrev rmX4_canPull : Room := ({ frames := 3, cells := 0, slots := 0, locals := 46 })
set_option maxHeartbeats 4000000 in
set_option maxRecDepth 100000 in
theorem kX4_canPull (l : Launch) (D : va_G) (cI cB cL : ClassId) (b0 : Nat) (sz : Nat) (S : Nat → Int32) (p1 : Int32) (w : Int32) (hf : fX4_canPull S p1 = some w) : Met l yX4_canPull wsX4_canPull rmX4_canPull (mPc D (tyK cI cB cL) [.ref b0, .int p1] sz [(b0, .inl (cI, 220, .inl S))]) (mQi D w [(b0, .inl (cI, 220, .inl S))] (va_A [(b0, .inl (cI, 220, .inl S))] sz)) 0 0 (va_A [(b0, .inl (cI, 220, .inl S))] sz) := by
  refine m_of (Qf := mQi D w [(b0, .inl (cI, 220, .inl S))]) (cc := cX4_canPull) (maxL := 2) (ret := (some .boolean)) (by decide) rfl (Nat.le_of_ble_eq_true rfl) ?_
  intro p e s m args below meth c A ls hsz hx hb hr hml hown hts hlocks hP hK hD hS hA hE hin hl Q hQ
  subst hsz
  have hl : lv_has ls 2 [(0, .ref b0), (1, .int p1)] := hl
  have hown : s.vm.findClass RX4 = some m.cls := hown
  unfold fX4_canPull at hf
  refine lv_aload_n hx hb dX4_canPull_0 rfl (lv_at hl 0 rfl) ?_
  refine lv_iload_n hx hb dX4_canPull_1 rfl (lv_at hl 1 rfl) ?_
  obtain ⟨q, h_1, hf⟩ := bd_some hf
  obtain ⟨r_2, rfl⟩ : ∃ z, z = q := ⟨_, rfl⟩
  try dsimp only at hf
  refine cl_i (ws := [(b0, .inl (cI, 220, .inl S))]) (wc := [(b0, .inl (cI, 220, .inl S))]) (wr := []) (w1 := [(b0, .inl (cI, 220, .inl S))]) (ws' := [(b0, .inl (cI, 220, .inl S))]) hP hD hS hA [0] [] [0] rfl rfl (by decide) (by decide) rfl (by decide) (va_runS (As := [.ref b0, .int p1]) (rest := []) ⟨hx, hb, hml, hown, hts⟩ (kX4_isOne l D cI cB cL b0 _ S p1 r_2 h_1) (va_cwS 2 hts gX4_canPull_X4_isOne rfl rfl rfl (by decide +kernel) ⟨Nat.le_of_ble_eq_true rfl, Nat.le_of_ble_eq_true rfl⟩) (pre_S hK hE hP hD hS hA [0] rfl (by decide)) rfl rfl hl.1 rfl (lv_room (Nat.le_of_ble_eq_true rfl)) dX4_canPull_2 ⟨Nat.le_of_ble_eq_true rfl, Nat.le_of_ble_eq_true rfl⟩) (fun H locs hP hD hS => ?_)
  refine lv_if_eq (tgt := 22) hx hb dX4_canPull_5 (by decide) (fun c_3 => ?_) (fun c_3 => ?_)
  · have hf := br_pos c_3 hf
    refine lv_iconst (v := 0) hx hb dX4_canPull_22 (by decide) ?_
    cases hf
    exact rt_z hQ hx hb hr rfl hlocks hP hD hS dX4_canPull_23
  · have hf := br_neg c_3 hf
    refine lv_aload_n hx hb dX4_canPull_8 rfl (lv_at hl 0 rfl) ?_
    refine lv_iload_n hx hb dX4_canPull_9 rfl (lv_at hl 1 rfl) ?_
    refine lv_iconst (v := 0) hx hb dX4_canPull_10 (by decide) ?_
    obtain ⟨q, h_4, hf⟩ := bd_some hf
    obtain ⟨r_5, rfl⟩ : ∃ z, z = q := ⟨_, rfl⟩
    try dsimp only at hf
    refine cl_i (ws := [(b0, .inl (cI, 220, .inl S))]) (wc := [(b0, .inl (cI, 220, .inl S))]) (wr := []) (w1 := [(b0, .inl (cI, 220, .inl S))]) (ws' := [(b0, .inl (cI, 220, .inl S))]) hP hD hS hA [0] [] [0] rfl rfl (by decide) (by decide) rfl (by decide) (va_runS (As := [.ref b0, .int p1, .int 0]) (rest := []) ⟨hx, hb, hml, hown, hts⟩ (kX4_of l D cI cB cL b0 _ S p1 0 r_5 h_4) (va_cwS 3 hts gX4_canPull_X4_of rfl rfl rfl (by decide +kernel) ⟨Nat.le_of_ble_eq_true rfl, Nat.le_of_ble_eq_true rfl⟩) (pre_S hK hE hP hD hS hA [0] rfl (by decide)) rfl rfl hl.1 rfl (lv_room (Nat.le_of_ble_eq_true rfl)) dX4_canPull_11 ⟨Nat.le_of_ble_eq_true rfl, Nat.le_of_ble_eq_true rfl⟩) (fun H locs hP hD hS => ?_)
    refine lv_iconst (v := 2) hx hb dX4_canPull_14 (by decide) ?_
    refine lv_icmp_ge (tgt := 22) hx hb dX4_canPull_15 (by decide) (fun c_6 => ?_) (fun c_6 => ?_)
    · have hf := br_pos c_6 hf
      refine lv_iconst (v := 0) hx hb dX4_canPull_22 (by decide) ?_
      cases hf
      exact rt_z hQ hx hb hr rfl hlocks hP hD hS dX4_canPull_23
    · have hf := br_neg c_6 hf
      refine lv_iconst (v := 1) hx hb dX4_canPull_18 (by decide) ?_
      refine lv_goto (tgt := 23) hx hb dX4_canPull_19 (by decide) ?_
      cases hf
      exact rt_z hQ hx hb hr rfl hlocks hP hD hS dX4_canPull_23
abbrev rmX4_pullOn : Room := ({ frames := 2, cells := 0, slots := 0, locals := 23 })
set_option maxHeartbeats 4000000 in
set_option maxRecDepth 100000 in
theorem kX4_pullOn (l : Launch) (D : va_G) (cI cB cL : ClassId) (b0 : Nat) (sz : Nat) (S : Nat → Int32) (p1 : Int32) (w : Int32) (S' : Nat → Int32) (hf : fX4_pullOn S p1 = some (w, S')) : Met l yX4_pullOn wsX4_pullOn rmX4_pullOn (mPc D (tyK cI cB cL) [.ref b0, .int p1] sz [(b0, .inl (cI, 220, .inl S))]) (mQi D w [(b0, .inl (cI, 220, .inl S'))] (va_A [(b0, .inl (cI, 220, .inl S))] sz)) 0 0 (va_A [(b0, .inl (cI, 220, .inl S))] sz) := by
  refine m_of (Qf := mQi D w [(b0, .inl (cI, 220, .inl S'))]) (cc := cX4_pullOn) (maxL := 3) (ret := (some .int)) (by decide) rfl (Nat.le_of_ble_eq_true rfl) ?_
  intro p e s m args below meth c A ls hsz hx hb hr hml hown hts hlocks hP hK hD hS hA hE hin hl Q hQ
  subst hsz
  have hl : lv_has ls 3 [(0, .ref b0), (1, .int p1)] := hl
  have hown : s.vm.findClass RX4 = some m.cls := hown
  unfold fX4_pullOn at hf
  refine lv_aload_n hx hb dX4_pullOn_0 rfl (lv_at hl 0 rfl) ?_
  refine lv_iload_n hx hb dX4_pullOn_1 rfl (lv_at hl 1 rfl) ?_
  refine lv_iconst (v := 1) hx hb dX4_pullOn_2 (by decide) ?_
  obtain ⟨q, h_1, hf⟩ := bd_some hf
  obtain ⟨r_2, rfl⟩ : ∃ z, z = q := ⟨_, rfl⟩
  try dsimp only at hf
  refine cl_i (ws := [(b0, .inl (cI, 220, .inl S))]) (wc := [(b0, .inl (cI, 220, .inl S))]) (wr := []) (w1 := [(b0, .inl (cI, 220, .inl S))]) (ws' := [(b0, .inl (cI, 220, .inl S))]) hP hD hS hA [0] [] [0] rfl rfl (by decide) (by decide) rfl (by decide) (va_runS (As := [.ref b0, .int p1, .int 1]) (rest := []) ⟨hx, hb, hml, hown, hts⟩ (kX4_of l D cI cB cL b0 _ S p1 1 r_2 h_1) (va_cwS 3 hts gX4_pullOn_X4_of rfl rfl rfl (by decide +kernel) ⟨Nat.le_of_ble_eq_true rfl, Nat.le_of_ble_eq_true rfl⟩) (pre_S hK hE hP hD hS hA [0] rfl (by decide)) rfl rfl hl.1 rfl (lv_room (Nat.le_of_ble_eq_true rfl)) dX4_pullOn_3 ⟨Nat.le_of_ble_eq_true rfl, Nat.le_of_ble_eq_true rfl⟩) (fun H locs hP hD hS => ?_)
  refine lv_istore_n (lv' := [(2, .int r_2), (0, .ref b0), (1, .int p1)]) hx hb dX4_pullOn_6 rfl hl (by decide) rfl (fun ls hl => ?_)
  refine lv_aload_n hx hb dX4_pullOn_7 rfl (lv_at hl 1 rfl) ?_
  refine lv_iload_n hx hb dX4_pullOn_8 rfl (lv_at hl 2 rfl) ?_
  refine lv_iconst (v := 0) hx hb dX4_pullOn_9 (by decide) ?_
  refine lv_iconst (v := 3) hx hb dX4_pullOn_10 (by decide) ?_
  obtain ⟨q, h_3, hf⟩ := bd_some hf
  obtain ⟨S_4, rfl⟩ : ∃ z, z = q := ⟨_, rfl⟩
  try dsimp only at hf
  refine cl_v (ws := [(b0, .inl (cI, 220, .inl S))]) (wc := [(b0, .inl (cI, 220, .inl S))]) (wr := []) (w1 := [(b0, .inl (cI, 220, .inl S_4))]) (ws' := [(b0, .inl (cI, 220, .inl S_4))]) hP hD hS hA [0] [] [0] rfl rfl (by decide) (by decide) rfl (by decide) (va_runS (As := [.ref b0, .int p1, .int 0, .int 3]) (rest := []) ⟨hx, hb, hml, hown, hts⟩ (kX4_lay l D cI cB cL b0 _ S p1 0 3 S_4 h_3) (va_cwS 4 hts gX4_pullOn_X4_lay rfl rfl rfl (by decide +kernel) ⟨Nat.le_of_ble_eq_true rfl, Nat.le_of_ble_eq_true rfl⟩) (pre_S hK hE hP hD hS hA [0] rfl (by decide)) rfl rfl hl.1 rfl (lv_room (Nat.le_of_ble_eq_true rfl)) dX4_pullOn_11 ⟨Nat.le_of_ble_eq_true rfl, Nat.le_of_ble_eq_true rfl⟩) (fun H locs hP hD hS => ?_)
  refine lv_aload_n hx hb dX4_pullOn_14 rfl (lv_at hl 1 rfl) ?_
  refine lv_iload_n hx hb dX4_pullOn_15 rfl (lv_at hl 2 rfl) ?_
  refine lv_iconst (v := 1) hx hb dX4_pullOn_16 (by decide) ?_
  refine lv_iconst (v := 0) hx hb dX4_pullOn_17 (by decide) ?_
  obtain ⟨q, h_5, hf⟩ := bd_some hf
  obtain ⟨S_6, rfl⟩ : ∃ z, z = q := ⟨_, rfl⟩
  try dsimp only at hf
  refine cl_v (ws := [(b0, .inl (cI, 220, .inl S_4))]) (wc := [(b0, .inl (cI, 220, .inl S_4))]) (wr := []) (w1 := [(b0, .inl (cI, 220, .inl S_6))]) (ws' := [(b0, .inl (cI, 220, .inl S_6))]) hP hD hS hA [0] [] [0] rfl rfl (by decide) (by decide) rfl (by decide) (va_runS (As := [.ref b0, .int p1, .int 1, .int 0]) (rest := []) ⟨hx, hb, hml, hown, hts⟩ (kX4_lay l D cI cB cL b0 _ S_4 p1 1 0 S_6 h_5) (va_cwS 4 hts gX4_pullOn_X4_lay rfl rfl rfl (by decide +kernel) ⟨Nat.le_of_ble_eq_true rfl, Nat.le_of_ble_eq_true rfl⟩) (pre_S hK hE hP hD hS hA [0] rfl (by decide)) rfl rfl hl.1 rfl (lv_room (Nat.le_of_ble_eq_true rfl)) dX4_pullOn_18 ⟨Nat.le_of_ble_eq_true rfl, Nat.le_of_ble_eq_true rfl⟩) (fun H locs hP hD hS => ?_)
  refine lv_aload_n hx hb dX4_pullOn_21 rfl (lv_at hl 1 rfl) ?_
  refine lv_iload_n hx hb dX4_pullOn_22 rfl (lv_at hl 2 rfl) ?_
  refine lv_iconst (v := 2) hx hb dX4_pullOn_23 (by decide) ?_
  refine lv_iconst (v := 0) hx hb dX4_pullOn_24 (by decide) ?_
  obtain ⟨q, h_7, hf⟩ := bd_some hf
  obtain ⟨S_8, rfl⟩ : ∃ z, z = q := ⟨_, rfl⟩
  try dsimp only at hf
  refine cl_v (ws := [(b0, .inl (cI, 220, .inl S_6))]) (wc := [(b0, .inl (cI, 220, .inl S_6))]) (wr := []) (w1 := [(b0, .inl (cI, 220, .inl S_8))]) (ws' := [(b0, .inl (cI, 220, .inl S_8))]) hP hD hS hA [0] [] [0] rfl rfl (by decide) (by decide) rfl (by decide) (va_runS (As := [.ref b0, .int p1, .int 2, .int 0]) (rest := []) ⟨hx, hb, hml, hown, hts⟩ (kX4_lay l D cI cB cL b0 _ S_6 p1 2 0 S_8 h_7) (va_cwS 4 hts gX4_pullOn_X4_lay rfl rfl rfl (by decide +kernel) ⟨Nat.le_of_ble_eq_true rfl, Nat.le_of_ble_eq_true rfl⟩) (pre_S hK hE hP hD hS hA [0] rfl (by decide)) rfl rfl hl.1 rfl (lv_room (Nat.le_of_ble_eq_true rfl)) dX4_pullOn_25 ⟨Nat.le_of_ble_eq_true rfl, Nat.le_of_ble_eq_true rfl⟩) (fun H locs hP hD hS => ?_)
  refine lv_iload_n hx hb dX4_pullOn_28 rfl (lv_at hl 0 rfl) ?_
  cases hf
  exact rt_i hQ hx hb hr hlocks hP hD hS dX4_pullOn_29
abbrev rmX4_ringOf : Room := ({ frames := 7, cells := 0, slots := 0, locals := 134 })
set_option maxHeartbeats 4000000 in
set_option maxRecDepth 100000 in
theorem kX4_ringOf (l : Launch) (D : va_G) (cI cB cL : ClassId) (b0 : Nat) (sz : Nat) (S : Nat → Int32) (p1 : Int32) (w : Int32) (hf : fX4_ringOf S p1 = some w) : Met l yX4_ringOf wsX4_ringOf rmX4_ringOf (mPc D (tyK cI cB cL) [.ref b0, .int p1] sz [(b0, .inl (cI, 220, .inl S))]) (mQi D w [(b0, .inl (cI, 220, .inl S))] (va_A [(b0, .inl (cI, 220, .inl S))] sz)) 0 0 (va_A [(b0, .inl (cI, 220, .inl S))] sz) := by
  refine m_of (Qf := mQi D w [(b0, .inl (cI, 220, .inl S))]) (cc := cX4_ringOf) (maxL := 4) (ret := (some .int)) (by decide) rfl (Nat.le_of_ble_eq_true rfl) ?_
  intro p e s m args below meth c A ls hsz hx hb hr hml hown hts hlocks hP hK hD hS hA hE hin hl Q hQ
  subst hsz
  have hl : lv_has ls 4 [(0, .ref b0), (1, .int p1)] := hl
  have hown : s.vm.findClass RX4 = some m.cls := hown
  have hl0 := hl
  have g36 : ∀ (v2 : Int32) (v3 : Int32) (H : Heap) (locs : List Loc) (ls : Array Slot), fX4_ringOf_36 p1 v2 v3 = some w → va_P D vwCl [(b0, .inl (cI, 220, .inl S))] H → va_D A [(b0, .inl (cI, 220, .inl S))] → va_S A s.heap H locs → lv_has ls 4 [(1, .int p1), (2, .int v2), (3, .int v3)] → W p l e rmX4_ringOf s m args below meth c H locs 0 0 Q (F0 m 36 ls []) := by
    intro  v2 v3 H locs ls hf hP hD hS hl
    unfold fX4_ringOf_36 at hf
    refine lv_iload_n hx hb dX4_ringOf_36 rfl (lv_at hl 1 rfl) ?_
    refine lv_iload_n hx hb dX4_ringOf_37 rfl (lv_at hl 0 rfl) ?_
    refine lv_icmp_ne (tgt := 45) hx hb dX4_ringOf_38 (by decide) (fun c_1 => ?_) (fun c_1 => ?_)
    · have hf := br_neg c_1 hf
      refine lv_iconst (v := (-1)) hx hb dX4_ringOf_45 (by decide) ?_
      cases hf
      exact rt_i hQ hx hb hr hlocks hP hD hS dX4_ringOf_46
    · have hf := br_pos c_1 hf
      refine lv_iload_n hx hb dX4_ringOf_41 rfl (lv_at hl 2 rfl) ?_
      refine lv_goto (tgt := 46) hx hb dX4_ringOf_42 (by decide) ?_
      cases hf
      exact rt_i hQ hx hb hr hlocks hP hD hS dX4_ringOf_46
  have g8 : ∀ (n : Nat) (v2 : Int32) (v3 : Int32) (H : Heap) (locs : List Loc) (ls : Array Slot), fX4_ringOf_8 S p1 n v2 v3 = some w → va_P D vwCl [(b0, .inl (cI, 220, .inl S))] H → va_D A [(b0, .inl (cI, 220, .inl S))] → va_S A s.heap H locs → lv_has ls 4 [(0, .ref b0), (1, .int p1), (2, .int v2), (3, .int v3)] → W p l e rmX4_ringOf s m args below meth c H locs 0 0 Q (F0 m 8 ls []) := by
    intro  n
    induction n with
    | zero =>
      intro v2 v3 H locs ls hf
      exact absurd hf (by rw [fX4_ringOf_8]; simp)
    | succ n ih =>
      intro v2 v3 H locs ls hf hP hD hS hl
      rw [fX4_ringOf_8] at hf
      refine lv_iload_n hx hb dX4_ringOf_8 rfl (lv_at hl 2 rfl) ?_
      refine lv_iconst (v := (-1)) hx hb dX4_ringOf_9 (by decide) ?_
      refine lv_icmp_eq (tgt := 36) hx hb dX4_ringOf_10 (by decide) (fun c_2 => ?_) (fun c_2 => ?_)
      · have hf := br_pos c_2 hf
        exact g36 v2 v3 _ _ _ hf hP hD hS (lv_sub hl [1, 2, 3] rfl)
      · have hf := br_neg c_2 hf
        refine lv_iload_n hx hb dX4_ringOf_13 rfl (lv_at hl 2 rfl) ?_
        refine lv_iload_n hx hb dX4_ringOf_14 rfl (lv_at hl 1 rfl) ?_
        refine lv_icmp_eq (tgt := 36) hx hb dX4_ringOf_15 (by decide) (fun c_3 => ?_) (fun c_3 => ?_)
        · have hf := br_pos c_3 hf
          exact g36 v2 v3 _ _ _ hf hP hD hS (lv_sub hl [1, 2, 3] rfl)
        · have hf := br_neg c_3 hf
          refine lv_iload_n hx hb dX4_ringOf_18 rfl (lv_at hl 3 rfl) ?_
          refine lv_bipush (v := 10) hx hb dX4_ringOf_19 (by decide) ?_
          refine lv_icmp_gt (tgt := 36) hx hb dX4_ringOf_21 (by decide) (fun c_4 => ?_) (fun c_4 => ?_)
          · have hf := br_pos c_4 hf
            exact g36 v2 v3 _ _ _ hf hP hD hS (lv_sub hl [1, 2, 3] rfl)
          · have hf := br_neg c_4 hf
            refine lv_aload_n hx hb dX4_ringOf_24 rfl (lv_at hl 0 rfl) ?_
            refine lv_iload_n hx hb dX4_ringOf_25 rfl (lv_at hl 2 rfl) ?_
            obtain ⟨q, h_5, hf⟩ := bd_some hf
            obtain ⟨r_6, rfl⟩ : ∃ z, z = q := ⟨_, rfl⟩
            try dsimp only at hf
            refine cl_i (ws := [(b0, .inl (cI, 220, .inl S))]) (wc := [(b0, .inl (cI, 220, .inl S))]) (wr := []) (w1 := [(b0, .inl (cI, 220, .inl S))]) (ws' := [(b0, .inl (cI, 220, .inl S))]) hP hD hS hA [0] [] [0] rfl rfl (by decide) (by decide) rfl (by decide) (va_runS (As := [.ref b0, .int v2]) (rest := []) ⟨hx, hb, hml, hown, hts⟩ (kX4_blockedBy l D cI cB cL b0 _ S v2 r_6 h_5) (va_cwS 2 hts gX4_ringOf_X4_blockedBy rfl rfl rfl (by decide +kernel) ⟨Nat.le_of_ble_eq_true rfl, Nat.le_of_ble_eq_true rfl⟩) (pre_S hK hE hP hD hS hA [0] rfl (by decide)) rfl rfl hl.1 rfl (lv_room (Nat.le_of_ble_eq_true rfl)) dX4_ringOf_26 ⟨Nat.le_of_ble_eq_true rfl, Nat.le_of_ble_eq_true rfl⟩) (fun H locs hP hD hS => ?_)
            refine lv_istore_n (lv' := [(2, .int r_6), (0, .ref b0), (1, .int p1), (3, .int v3)]) hx hb dX4_ringOf_29 rfl hl (by decide) rfl (fun ls hl => ?_)
            refine lv_iinc (v := (v3 + 1)) (lv' := [(3, .int (v3 + 1)), (2, .int r_6), (0, .ref b0), (1, .int p1)]) hx hb dX4_ringOf_30 hl (k := 3) rfl rfl (by decide) rfl (fun ls hl => ?_)
            refine lv_goto (tgt := 8) hx hb dX4_ringOf_33 (by decide) ?_
            exact ih r_6 (v3 + 1) _ _ _ hf hP hD hS (lv_sub hl [2, 3, 1, 0] rfl)
  unfold fX4_ringOf at hf
  refine lv_aload_n hx hb dX4_ringOf_0 rfl (lv_at hl 0 rfl) ?_
  refine lv_iload_n hx hb dX4_ringOf_1 rfl (lv_at hl 1 rfl) ?_
  obtain ⟨q, h_7, hf⟩ := bd_some hf
  obtain ⟨r_8, rfl⟩ : ∃ z, z = q := ⟨_, rfl⟩
  try dsimp only at hf
  refine cl_i (ws := [(b0, .inl (cI, 220, .inl S))]) (wc := [(b0, .inl (cI, 220, .inl S))]) (wr := []) (w1 := [(b0, .inl (cI, 220, .inl S))]) (ws' := [(b0, .inl (cI, 220, .inl S))]) hP hD hS hA [0] [] [0] rfl rfl (by decide) (by decide) rfl (by decide) (va_runS (As := [.ref b0, .int p1]) (rest := []) ⟨hx, hb, hml, hown, hts⟩ (kX4_blockedBy l D cI cB cL b0 _ S p1 r_8 h_7) (va_cwS 2 hts gX4_ringOf_X4_blockedBy rfl rfl rfl (by decide +kernel) ⟨Nat.le_of_ble_eq_true rfl, Nat.le_of_ble_eq_true rfl⟩) (pre_S hK hE hP hD hS hA [0] rfl (by decide)) rfl rfl hl.1 rfl (lv_room (Nat.le_of_ble_eq_true rfl)) dX4_ringOf_2 ⟨Nat.le_of_ble_eq_true rfl, Nat.le_of_ble_eq_true rfl⟩) (fun H locs hP hD hS => ?_)
  refine lv_istore_n (lv' := [(2, .int r_8), (0, .ref b0), (1, .int p1)]) hx hb dX4_ringOf_5 rfl hl (by decide) rfl (fun ls hl => ?_)
  refine lv_iconst (v := 1) hx hb dX4_ringOf_6 (by decide) ?_
  refine lv_istore_n (lv' := [(3, .int 1), (2, .int r_8), (0, .ref b0), (1, .int p1)]) hx hb dX4_ringOf_7 rfl hl (by decide) rfl (fun ls hl => ?_)
  exact g8 5000 r_8 1 _ _ _ hf hP hD hS (lv_sub hl [2, 3, 1, 0] rfl)
abbrev rmX4_ringed : Room := ({ frames := 8, cells := 0, slots := 0, locals := 157 })
set_option maxHeartbeats 4000000 in
set_option maxRecDepth 100000 in
theorem kX4_ringed (l : Launch) (D : va_G) (cI cB cL : ClassId) (b0 : Nat) (sz : Nat) (S : Nat → Int32) (w : Int32) (hf : fX4_ringed S = some w) : Met l yX4_ringed wsX4_ringed rmX4_ringed (mPc D (tyK cI cB cL) [.ref b0] sz [(b0, .inl (cI, 220, .inl S))]) (mQi D w [(b0, .inl (cI, 220, .inl S))] (va_A [(b0, .inl (cI, 220, .inl S))] sz)) 0 0 (va_A [(b0, .inl (cI, 220, .inl S))] sz) := by
  refine m_of (Qf := mQi D w [(b0, .inl (cI, 220, .inl S))]) (cc := cX4_ringed) (maxL := 2) (ret := (some .int)) (by decide) rfl (Nat.le_of_ble_eq_true rfl) ?_
  intro p e s m args below meth c A ls hsz hx hb hr hml hown hts hlocks hP hK hD hS hA hE hin hl Q hQ
  subst hsz
  have hl : lv_has ls 2 [(0, .ref b0)] := hl
  have hown : s.vm.findClass RX4 = some m.cls := hown
  have hl0 := hl
  have g2 : ∀ (n : Nat) (v1 : Int32) (H : Heap) (locs : List Loc) (ls : Array Slot), fX4_ringed_2 S n v1 = some w → va_P D vwCl [(b0, .inl (cI, 220, .inl S))] H → va_D A [(b0, .inl (cI, 220, .inl S))] → va_S A s.heap H locs → lv_has ls 2 [(0, .ref b0), (1, .int v1)] → W p l e rmX4_ringed s m args below meth c H locs 0 0 Q (F0 m 2 ls []) := by
    intro  n
    induction n with
    | zero =>
      intro v1 H locs ls hf
      exact absurd hf (by rw [fX4_ringed_2]; simp)
    | succ n ih =>
      intro v1 H locs ls hf hP hD hS hl
      rw [fX4_ringed_2] at hf
      refine lv_iload_n hx hb dX4_ringed_2 rfl (lv_at hl 1 rfl) ?_
      refine lv_aload_n hx hb dX4_ringed_3 rfl (lv_at hl 0 rfl) ?_
      refine lv_iconst (v := 0) hx hb dX4_ringed_4 (by decide) ?_
      refine x_iald hx hb hK hP 0 0 rfl rfl (vl rfl) 0 rfl dX4_ringed_5 ?_
      refine lv_icmp_ge (tgt := 26) hx hb dX4_ringed_6 (by decide) (fun c_1 => ?_) (fun c_1 => ?_)
      · have hf := br_pos c_1 hf
        refine lv_iconst (v := (-1)) hx hb dX4_ringed_26 (by decide) ?_
        cases hf
        exact rt_i hQ hx hb hr hlocks hP hD hS dX4_ringed_27
      · have hf := br_neg c_1 hf
        refine lv_aload_n hx hb dX4_ringed_9 rfl (lv_at hl 0 rfl) ?_
        refine lv_iload_n hx hb dX4_ringed_10 rfl (lv_at hl 1 rfl) ?_
        obtain ⟨q, h_2, hf⟩ := bd_some hf
        obtain ⟨r_3, rfl⟩ : ∃ z, z = q := ⟨_, rfl⟩
        try dsimp only at hf
        refine cl_i (ws := [(b0, .inl (cI, 220, .inl S))]) (wc := [(b0, .inl (cI, 220, .inl S))]) (wr := []) (w1 := [(b0, .inl (cI, 220, .inl S))]) (ws' := [(b0, .inl (cI, 220, .inl S))]) hP hD hS hA [0] [] [0] rfl rfl (by decide) (by decide) rfl (by decide) (va_runS (As := [.ref b0, .int v1]) (rest := []) ⟨hx, hb, hml, hown, hts⟩ (kX4_ringOf l D cI cB cL b0 _ S v1 r_3 h_2) (va_cwS 2 hts gX4_ringed_X4_ringOf rfl rfl rfl (by decide +kernel) ⟨Nat.le_of_ble_eq_true rfl, Nat.le_of_ble_eq_true rfl⟩) (pre_S hK hE hP hD hS hA [0] rfl (by decide)) rfl rfl hl.1 rfl (lv_room (Nat.le_of_ble_eq_true rfl)) dX4_ringed_11 ⟨Nat.le_of_ble_eq_true rfl, Nat.le_of_ble_eq_true rfl⟩) (fun H locs hP hD hS => ?_)
        refine lv_iconst (v := (-1)) hx hb dX4_ringed_14 (by decide) ?_
        refine lv_icmp_eq (tgt := 20) hx hb dX4_ringed_15 (by decide) (fun c_4 => ?_) (fun c_4 => ?_)
        · have hf := br_pos c_4 hf
          refine lv_iinc (v := (v1 + 1)) (lv' := [(1, .int (v1 + 1)), (0, .ref b0)]) hx hb dX4_ringed_20 hl (k := 1) rfl rfl (by decide) rfl (fun ls hl => ?_)
          refine lv_goto (tgt := 2) hx hb dX4_ringed_23 (by decide) ?_
          exact ih (v1 + 1) _ _ _ hf hP hD hS (lv_sub hl [1, 0] rfl)
        · have hf := br_neg c_4 hf
          refine lv_iload_n hx hb dX4_ringed_18 rfl (lv_at hl 1 rfl) ?_
          cases hf
          exact rt_i hQ hx hb hr hlocks hP hD hS dX4_ringed_19
  unfold fX4_ringed at hf
  refine lv_iconst (v := 0) hx hb dX4_ringed_0 (by decide) ?_
  refine lv_istore_n (lv' := [(1, .int 0), (0, .ref b0)]) hx hb dX4_ringed_1 rfl hl (by decide) rfl (fun ls hl => ?_)
  exact g2 5000 0 _ _ _ hf hP hD hS (lv_sub hl [1, 0] rfl)
abbrev rmX4_isThrough : Room := ({ frames := 4, cells := 0, slots := 0, locals := 67 })
set_option maxHeartbeats 4000000 in
set_option maxRecDepth 100000 in
theorem kX4_isThrough (l : Launch) (D : va_G) (cI cB cL : ClassId) (b0 : Nat) (sz : Nat) (S : Nat → Int32) (w : Int32) (hf : fX4_isThrough S = some w) : Met l yX4_isThrough wsX4_isThrough rmX4_isThrough (mPc D (tyK cI cB cL) [.ref b0] sz [(b0, .inl (cI, 220, .inl S))]) (mQi D w [(b0, .inl (cI, 220, .inl S))] (va_A [(b0, .inl (cI, 220, .inl S))] sz)) 0 0 (va_A [(b0, .inl (cI, 220, .inl S))] sz) := by
  refine m_of (Qf := mQi D w [(b0, .inl (cI, 220, .inl S))]) (cc := cX4_isThrough) (maxL := 1) (ret := (some .boolean)) (by decide) rfl (Nat.le_of_ble_eq_true rfl) ?_
  intro p e s m args below meth c A ls hsz hx hb hr hml hown hts hlocks hP hK hD hS hA hE hin hl Q hQ
  subst hsz
  have hl : lv_has ls 1 [(0, .ref b0)] := hl
  have hown : s.vm.findClass RX4 = some m.cls := hown
  unfold fX4_isThrough at hf
  refine lv_aload_n hx hb dX4_isThrough_0 rfl (lv_at hl 0 rfl) ?_
  refine lv_iconst (v := 0) hx hb dX4_isThrough_1 (by decide) ?_
  obtain ⟨q, h_1, hf⟩ := bd_some hf
  obtain ⟨r_2, rfl⟩ : ∃ z, z = q := ⟨_, rfl⟩
  try dsimp only at hf
  refine cl_i (ws := [(b0, .inl (cI, 220, .inl S))]) (wc := [(b0, .inl (cI, 220, .inl S))]) (wr := []) (w1 := [(b0, .inl (cI, 220, .inl S))]) (ws' := [(b0, .inl (cI, 220, .inl S))]) hP hD hS hA [0] [] [0] rfl rfl (by decide) (by decide) rfl (by decide) (va_runS (As := [.ref b0, .int 0]) (rest := []) ⟨hx, hb, hml, hown, hts⟩ (kX4_count l D cI cB cL b0 _ S 0 r_2 h_1) (va_cwS 2 hts gX4_isThrough_X4_count rfl rfl rfl (by decide +kernel) ⟨Nat.le_of_ble_eq_true rfl, Nat.le_of_ble_eq_true rfl⟩) (pre_S hK hE hP hD hS hA [0] rfl (by decide)) rfl rfl hl.1 rfl (lv_room (Nat.le_of_ble_eq_true rfl)) dX4_isThrough_2 ⟨Nat.le_of_ble_eq_true rfl, Nat.le_of_ble_eq_true rfl⟩) (fun H locs hP hD hS => ?_)
  refine lv_aload_n hx hb dX4_isThrough_5 rfl (lv_at hl 0 rfl) ?_
  refine lv_iconst (v := 1) hx hb dX4_isThrough_6 (by decide) ?_
  obtain ⟨q, h_3, hf⟩ := bd_some hf
  obtain ⟨r_4, rfl⟩ : ∃ z, z = q := ⟨_, rfl⟩
  try dsimp only at hf
  refine cl_i (ws := [(b0, .inl (cI, 220, .inl S))]) (wc := [(b0, .inl (cI, 220, .inl S))]) (wr := []) (w1 := [(b0, .inl (cI, 220, .inl S))]) (ws' := [(b0, .inl (cI, 220, .inl S))]) hP hD hS hA [0] [] [0] rfl rfl (by decide) (by decide) rfl (by decide) (va_runS (As := [.ref b0, .int 1]) (rest := [.int r_2]) ⟨hx, hb, hml, hown, hts⟩ (kX4_count l D cI cB cL b0 _ S 1 r_4 h_3) (va_cwS 2 hts gX4_isThrough_X4_count rfl rfl rfl (by decide +kernel) ⟨Nat.le_of_ble_eq_true rfl, Nat.le_of_ble_eq_true rfl⟩) (pre_S hK hE hP hD hS hA [0] rfl (by decide)) rfl rfl hl.1 rfl (lv_room (Nat.le_of_ble_eq_true rfl)) dX4_isThrough_7 ⟨Nat.le_of_ble_eq_true rfl, Nat.le_of_ble_eq_true rfl⟩) (fun H locs hP hD hS => ?_)
  refine lv_iadd hx hb dX4_isThrough_10 ?_
  refine lv_if_ne (tgt := 18) hx hb dX4_isThrough_11 (by decide) (fun c_5 => ?_) (fun c_5 => ?_)
  · have hf := br_neg c_5 hf
    refine lv_iconst (v := 0) hx hb dX4_isThrough_18 (by decide) ?_
    cases hf
    exact rt_z hQ hx hb hr rfl hlocks hP hD hS dX4_isThrough_19
  · have hf := br_pos c_5 hf
    refine lv_iconst (v := 1) hx hb dX4_isThrough_14 (by decide) ?_
    refine lv_goto (tgt := 19) hx hb dX4_isThrough_15 (by decide) ?_
    cases hf
    exact rt_z hQ hx hb hr rfl hlocks hP hD hS dX4_isThrough_19
abbrev rmX4_until : Room := ({ frames := 8, cells := 0, slots := 0, locals := 158 })
set_option maxHeartbeats 4000000 in
set_option maxRecDepth 100000 in
theorem kX4_until (l : Launch) (D : va_G) (cI cB cL : ClassId) (b0 : Nat) (sz : Nat) (S : Nat → Int32) (p1 : Int32) (w : Int32) (S' : Nat → Int32) (hf : fX4_until S p1 = some (w, S')) : Met l yX4_until wsX4_until rmX4_until (mPc D (tyK cI cB cL) [.ref b0, .int p1] sz [(b0, .inl (cI, 220, .inl S))]) (mQi D w [(b0, .inl (cI, 220, .inl S'))] (va_A [(b0, .inl (cI, 220, .inl S))] sz)) 0 0 (va_A [(b0, .inl (cI, 220, .inl S))] sz) := by
  refine m_of (Qf := mQi D w [(b0, .inl (cI, 220, .inl S'))]) (cc := cX4_until) (maxL := 4) (ret := (some .int)) (by decide) rfl (Nat.le_of_ble_eq_true rfl) ?_
  intro p e s m args below meth c A ls hsz hx hb hr hml hown hts hlocks hP hK hD hS hA hE hin hl Q hQ
  subst hsz
  have hl : lv_has ls 4 [(0, .ref b0), (1, .int p1)] := hl
  have hown : s.vm.findClass RX4 = some m.cls := hown
  have hl0 := hl
  have g63 : ∀ (v2 : Int32) (v3 : Int32) (S : Nat → Int32) (H : Heap) (locs : List Loc) (ls : Array Slot), fX4_until_63 v2 v3 S = some (w, S') → va_P D vwCl [(b0, .inl (cI, 220, .inl S))] H → va_D A [(b0, .inl (cI, 220, .inl S))] → va_S A s.heap H locs → lv_has ls 4 [(2, .int v2), (3, .int v3)] → W p l e rmX4_until s m args below meth c H locs 0 0 Q (F0 m 63 ls []) := by
    intro  v2 v3 S H locs ls hf hP hD hS hl
    unfold fX4_until_63 at hf
    refine lv_iload_n hx hb dX4_until_63 rfl (lv_at hl 1 rfl) ?_
    refine lv_if_eq (tgt := 71) hx hb dX4_until_64 (by decide) (fun c_1 => ?_) (fun c_1 => ?_)
    · have hf := br_pos c_1 hf
      refine lv_iconst (v := (-1)) hx hb dX4_until_71 (by decide) ?_
      cases hf
      exact rt_i hQ hx hb hr hlocks hP hD hS dX4_until_72
    · have hf := br_neg c_1 hf
      refine lv_iload_n hx hb dX4_until_67 rfl (lv_at hl 0 rfl) ?_
      refine lv_goto (tgt := 72) hx hb dX4_until_68 (by decide) ?_
      cases hf
      exact rt_i hQ hx hb hr hlocks hP hD hS dX4_until_72
  have g59 : ∀ (k21 : Int32 → Int32 → (Nat → Int32) → Option (Int32 × (Nat → Int32))) (hk21 : ∀ (v2 : Int32) (v3 : Int32) (S : Nat → Int32) (H : Heap) (locs : List Loc) (ls : Array Slot), k21 v2 v3 S = some (w, S') → va_P D vwCl [(b0, .inl (cI, 220, .inl S))] H → va_D A [(b0, .inl (cI, 220, .inl S))] → va_S A s.heap H locs → lv_has ls 4 [(0, .ref b0), (1, .int p1), (2, .int v2), (3, .int v3)] → W p l e rmX4_until s m args below meth c H locs 0 0 Q (F0 m 21 ls [])) (v2 : Int32) (z0 : Int32) (S : Nat → Int32) (H : Heap) (locs : List Loc) (ls : Array Slot), fX4_until_59 k21 v2 z0 S = some (w, S') → va_P D vwCl [(b0, .inl (cI, 220, .inl S))] H → va_D A [(b0, .inl (cI, 220, .inl S))] → va_S A s.heap H locs → lv_has ls 4 [(0, .ref b0), (1, .int p1), (2, .int v2)] → W p l e rmX4_until s m args below meth c H locs 0 0 Q (F0 m 59 ls [.int z0]) := by
    intro k21 hk21 v2 z0 S H locs ls hf hP hD hS hl
    unfold fX4_until_59 at hf
    refine lv_istore_n (lv' := [(3, .int z0), (0, .ref b0), (1, .int p1), (2, .int v2)]) hx hb dX4_until_59 rfl hl (by decide) rfl (fun ls hl => ?_)
    refine lv_goto (tgt := 21) hx hb dX4_until_60 (by decide) ?_
    exact hk21 v2 z0 S _ _ _ hf hP hD hS (lv_sub hl [1, 2, 3, 0] rfl)
  have g21 : ∀ (n : Nat) (v2 : Int32) (v3 : Int32) (S : Nat → Int32) (H : Heap) (locs : List Loc) (ls : Array Slot), fX4_until_21 p1 n v2 v3 S = some (w, S') → va_P D vwCl [(b0, .inl (cI, 220, .inl S))] H → va_D A [(b0, .inl (cI, 220, .inl S))] → va_S A s.heap H locs → lv_has ls 4 [(0, .ref b0), (1, .int p1), (2, .int v2), (3, .int v3)] → W p l e rmX4_until s m args below meth c H locs 0 0 Q (F0 m 21 ls []) := by
    intro  n
    induction n with
    | zero =>
      intro v2 v3 S H locs ls hf
      exact absurd hf (by rw [fX4_until_21]; simp)
    | succ n ih =>
      intro v2 v3 S H locs ls hf hP hD hS hl
      rw [fX4_until_21] at hf
      refine lv_iload_n hx hb dX4_until_21 rfl (lv_at hl 2 rfl) ?_
      refine lv_sipush (v := 200) hx hb dX4_until_22 (by decide) ?_
      refine lv_icmp_ge (tgt := 63) hx hb dX4_until_25 (by decide) (fun c_2 => ?_) (fun c_2 => ?_)
      · have hf := br_pos c_2 hf
        exact g63 v2 v3 S _ _ _ hf hP hD hS (lv_sub hl [2, 3] rfl)
      · have hf := br_neg c_2 hf
        refine lv_iload_n hx hb dX4_until_28 rfl (lv_at hl 3 rfl) ?_
        refine lv_if_ne (tgt := 63) hx hb dX4_until_29 (by decide) (fun c_3 => ?_) (fun c_3 => ?_)
        · have hf := br_neg c_3 hf
          exact g63 v2 v3 S _ _ _ hf hP hD hS (lv_sub hl [2, 3] rfl)
        · have hf := br_pos c_3 hf
          refine lv_aload_n hx hb dX4_until_32 rfl (lv_at hl 0 rfl) ?_
          refine lv_iconst (v := 1) hx hb dX4_until_33 (by decide) ?_
          obtain ⟨q, h_4, hf⟩ := bd_some hf
          obtain ⟨r_5, S_6⟩ := q
          try dsimp only at hf
          refine cl_i (ws := [(b0, .inl (cI, 220, .inl S))]) (wc := [(b0, .inl (cI, 220, .inl S))]) (wr := []) (w1 := [(b0, .inl (cI, 220, .inl S_6))]) (ws' := [(b0, .inl (cI, 220, .inl S_6))]) hP hD hS hA [0] [] [0] rfl rfl (by decide) (by decide) rfl (by decide) (va_runS (As := [.ref b0, .int 1]) (rest := []) ⟨hx, hb, hml, hown, hts⟩ (kX4_ticksOn l D cI cB cL b0 _ S 1 r_5 S_6 h_4) (va_cwS 2 hts gX4_until_X4_ticksOn rfl rfl rfl (by decide +kernel) ⟨Nat.le_of_ble_eq_true rfl, Nat.le_of_ble_eq_true rfl⟩) (pre_S hK hE hP hD hS hA [0] rfl (by decide)) rfl rfl hl.1 rfl (lv_room (Nat.le_of_ble_eq_true rfl)) dX4_until_34 ⟨Nat.le_of_ble_eq_true rfl, Nat.le_of_ble_eq_true rfl⟩) (fun H locs hP hD hS => ?_)
          refine lv_pop hx hb dX4_until_37 rfl ?_
          refine lv_iinc (v := (v2 + 1)) (lv' := [(2, .int (v2 + 1)), (0, .ref b0), (1, .int p1), (3, .int v3)]) hx hb dX4_until_38 hl (k := 2) rfl rfl (by decide) rfl (fun ls hl => ?_)
          refine lv_iload_n hx hb dX4_until_41 rfl (lv_at hl 2 rfl) ?_
          refine lv_iconst (v := (-1)) hx hb dX4_until_42 (by decide) ?_
          refine lv_icmp_ne (tgt := 53) hx hb dX4_until_43 (by decide) (fun c_7 => ?_) (fun c_7 => ?_)
          · have hf := br_neg c_7 hf
            refine lv_aload_n hx hb dX4_until_53 rfl (lv_at hl 1 rfl) ?_
            refine lv_iload_n hx hb dX4_until_54 rfl (lv_at hl 2 rfl) ?_
            refine lv_iconst (v := 2) hx hb dX4_until_55 (by decide) ?_
            obtain ⟨q, h_8, hf⟩ := bd_some hf
            obtain ⟨r_9, rfl⟩ : ∃ z, z = q := ⟨_, rfl⟩
            try dsimp only at hf
            refine cl_i (ws := [(b0, .inl (cI, 220, .inl S_6))]) (wc := [(b0, .inl (cI, 220, .inl S_6))]) (wr := []) (w1 := [(b0, .inl (cI, 220, .inl S_6))]) (ws' := [(b0, .inl (cI, 220, .inl S_6))]) hP hD hS hA [0] [] [0] rfl rfl (by decide) (by decide) rfl (by decide) (va_runS (As := [.ref b0, .int p1, .int 2]) (rest := []) ⟨hx, hb, hml, hown, hts⟩ (kX4_isIn l D cI cB cL b0 _ S_6 p1 2 r_9 h_8) (va_cwS 3 hts gX4_until_X4_isIn rfl rfl rfl (by decide +kernel) ⟨Nat.le_of_ble_eq_true rfl, Nat.le_of_ble_eq_true rfl⟩) (pre_S hK hE hP hD hS hA [0] rfl (by decide)) rfl rfl hl.1 rfl (lv_room (Nat.le_of_ble_eq_true rfl)) dX4_until_56 ⟨Nat.le_of_ble_eq_true rfl, Nat.le_of_ble_eq_true rfl⟩) (fun H locs hP hD hS => ?_)
            exact g59 (fX4_until_21 p1 n) ih (v2 + 1) r_9 S_6 _ _ _ hf hP hD hS (lv_sub hl [1, 2, 0] rfl)
          · have hf := br_pos c_7 hf
            refine lv_aload_n hx hb dX4_until_46 rfl (lv_at hl 1 rfl) ?_
            obtain ⟨q, h_10, hf⟩ := bd_some hf
            obtain ⟨r_11, rfl⟩ : ∃ z, z = q := ⟨_, rfl⟩
            try dsimp only at hf
            refine cl_i (ws := [(b0, .inl (cI, 220, .inl S_6))]) (wc := [(b0, .inl (cI, 220, .inl S_6))]) (wr := []) (w1 := [(b0, .inl (cI, 220, .inl S_6))]) (ws' := [(b0, .inl (cI, 220, .inl S_6))]) hP hD hS hA [0] [] [0] rfl rfl (by decide) (by decide) rfl (by decide) (va_runS (As := [.ref b0]) (rest := []) ⟨hx, hb, hml, hown, hts⟩ (kX4_isThrough l D cI cB cL b0 _ S_6 r_11 h_10) (va_cwS 1 hts gX4_until_X4_isThrough rfl rfl rfl (by decide +kernel) ⟨Nat.le_of_ble_eq_true rfl, Nat.le_of_ble_eq_true rfl⟩) (pre_S hK hE hP hD hS hA [0] rfl (by decide)) rfl rfl hl.1 rfl (lv_room (Nat.le_of_ble_eq_true rfl)) dX4_until_47 ⟨Nat.le_of_ble_eq_true rfl, Nat.le_of_ble_eq_true rfl⟩) (fun H locs hP hD hS => ?_)
            refine lv_goto (tgt := 59) hx hb dX4_until_50 (by decide) ?_
            exact g59 (fX4_until_21 p1 n) ih (v2 + 1) r_11 S_6 _ _ _ hf hP hD hS (lv_sub hl [1, 2, 0] rfl)
  have g20 : ∀ (v2 : Int32) (z0 : Int32) (S : Nat → Int32) (H : Heap) (locs : List Loc) (ls : Array Slot), fX4_until_20 p1 v2 z0 S = some (w, S') → va_P D vwCl [(b0, .inl (cI, 220, .inl S))] H → va_D A [(b0, .inl (cI, 220, .inl S))] → va_S A s.heap H locs → lv_has ls 4 [(0, .ref b0), (1, .int p1), (2, .int v2)] → W p l e rmX4_until s m args below meth c H locs 0 0 Q (F0 m 20 ls [.int z0]) := by
    intro  v2 z0 S H locs ls hf hP hD hS hl
    unfold fX4_until_20 at hf
    refine lv_istore_n (lv' := [(3, .int z0), (0, .ref b0), (1, .int p1), (2, .int v2)]) hx hb dX4_until_20 rfl hl (by decide) rfl (fun ls hl => ?_)
    exact g21 5000 v2 z0 S _ _ _ hf hP hD hS (lv_sub hl [1, 2, 3, 0] rfl)
  unfold fX4_until at hf
  refine lv_iconst (v := 0) hx hb dX4_until_0 (by decide) ?_
  refine lv_istore_n (lv' := [(2, .int 0), (0, .ref b0), (1, .int p1)]) hx hb dX4_until_1 rfl hl (by decide) rfl (fun ls hl => ?_)
  refine lv_iload_n hx hb dX4_until_2 rfl (lv_at hl 2 rfl) ?_
  refine lv_iconst (v := (-1)) hx hb dX4_until_3 (by decide) ?_
  refine lv_icmp_ne (tgt := 14) hx hb dX4_until_4 (by decide) (fun c_12 => ?_) (fun c_12 => ?_)
  · have hf := br_neg c_12 hf
    refine lv_aload_n hx hb dX4_until_14 rfl (lv_at hl 1 rfl) ?_
    refine lv_iload_n hx hb dX4_until_15 rfl (lv_at hl 2 rfl) ?_
    refine lv_iconst (v := 2) hx hb dX4_until_16 (by decide) ?_
    obtain ⟨q, h_13, hf⟩ := bd_some hf
    obtain ⟨r_14, rfl⟩ : ∃ z, z = q := ⟨_, rfl⟩
    try dsimp only at hf
    refine cl_i (ws := [(b0, .inl (cI, 220, .inl S))]) (wc := [(b0, .inl (cI, 220, .inl S))]) (wr := []) (w1 := [(b0, .inl (cI, 220, .inl S))]) (ws' := [(b0, .inl (cI, 220, .inl S))]) hP hD hS hA [0] [] [0] rfl rfl (by decide) (by decide) rfl (by decide) (va_runS (As := [.ref b0, .int p1, .int 2]) (rest := []) ⟨hx, hb, hml, hown, hts⟩ (kX4_isIn l D cI cB cL b0 _ S p1 2 r_14 h_13) (va_cwS 3 hts gX4_until_X4_isIn rfl rfl rfl (by decide +kernel) ⟨Nat.le_of_ble_eq_true rfl, Nat.le_of_ble_eq_true rfl⟩) (pre_S hK hE hP hD hS hA [0] rfl (by decide)) rfl rfl hl.1 rfl (lv_room (Nat.le_of_ble_eq_true rfl)) dX4_until_17 ⟨Nat.le_of_ble_eq_true rfl, Nat.le_of_ble_eq_true rfl⟩) (fun H locs hP hD hS => ?_)
    exact g20 0 r_14 S _ _ _ hf hP hD hS (lv_sub hl [1, 2, 0] rfl)
  · have hf := br_pos c_12 hf
    refine lv_aload_n hx hb dX4_until_7 rfl (lv_at hl 1 rfl) ?_
    obtain ⟨q, h_15, hf⟩ := bd_some hf
    obtain ⟨r_16, rfl⟩ : ∃ z, z = q := ⟨_, rfl⟩
    try dsimp only at hf
    refine cl_i (ws := [(b0, .inl (cI, 220, .inl S))]) (wc := [(b0, .inl (cI, 220, .inl S))]) (wr := []) (w1 := [(b0, .inl (cI, 220, .inl S))]) (ws' := [(b0, .inl (cI, 220, .inl S))]) hP hD hS hA [0] [] [0] rfl rfl (by decide) (by decide) rfl (by decide) (va_runS (As := [.ref b0]) (rest := []) ⟨hx, hb, hml, hown, hts⟩ (kX4_isThrough l D cI cB cL b0 _ S r_16 h_15) (va_cwS 1 hts gX4_until_X4_isThrough rfl rfl rfl (by decide +kernel) ⟨Nat.le_of_ble_eq_true rfl, Nat.le_of_ble_eq_true rfl⟩) (pre_S hK hE hP hD hS hA [0] rfl (by decide)) rfl rfl hl.1 rfl (lv_room (Nat.le_of_ble_eq_true rfl)) dX4_until_8 ⟨Nat.le_of_ble_eq_true rfl, Nat.le_of_ble_eq_true rfl⟩) (fun H locs hP hD hS => ?_)
    refine lv_goto (tgt := 20) hx hb dX4_until_11 (by decide) ?_
    exact g20 0 r_16 S _ _ _ hf hP hD hS (lv_sub hl [1, 2, 0] rfl)
abbrev rmX4_turn : Room := ({ frames := 8, cells := 0, slots := 0, locals := 158 })
set_option maxHeartbeats 4000000 in
set_option maxRecDepth 100000 in
theorem kX4_turn (l : Launch) (D : va_G) (cI cB cL : ClassId) (b0 : Nat) (sz : Nat) (S : Nat → Int32) (p1 : Int32) (S' : Nat → Int32) (hf : fX4_turn S p1 = some S') : Met l yX4_turn wsX4_turn rmX4_turn (mPc D (tyK cI cB cL) [.ref b0, .int p1] sz [(b0, .inl (cI, 220, .inl S))]) (mQv D [(b0, .inl (cI, 220, .inl S'))] (va_A [(b0, .inl (cI, 220, .inl S))] sz)) 0 0 (va_A [(b0, .inl (cI, 220, .inl S))] sz) := by
  refine m_of (Qf := mQv D [(b0, .inl (cI, 220, .inl S'))]) (cc := cX4_turn) (maxL := 4) (ret := none) (by decide) rfl (Nat.le_of_ble_eq_true rfl) ?_
  intro p e s m args below meth c A ls hsz hx hb hr hml hown hts hlocks hP hK hD hS hA hE hin hl Q hQ
  subst hsz
  have hl : lv_has ls 4 [(0, .ref b0), (1, .int p1)] := hl
  have hown : s.vm.findClass RX4 = some m.cls := hown
  have hl0 := hl
  have g140 : ∀ (z0 : Int32) (z1 : Int32) (S : Nat → Int32) (H : Heap) (locs : List Loc) (ls : Array Slot), fX4_turn_140 z0 z1 S = some S' → va_P D vwCl [(b0, .inl (cI, 220, .inl S))] H → va_D A [(b0, .inl (cI, 220, .inl S))] → va_S A s.heap H locs → lv_has ls 4 [] → W p l e rmX4_turn s m args below meth c H locs 0 0 Q (F0 m 140 ls [.int z0, .int z1, .ref b0]) := by
    intro  z0 z1 S H locs ls hf hP hD hS hl
    unfold fX4_turn_140 at hf
    obtain ⟨q, h_1, hf⟩ := bd_some hf
    obtain ⟨r_2, S_3⟩ := q
    try dsimp only at hf
    refine cl_i (ws := [(b0, .inl (cI, 220, .inl S))]) (wc := [(b0, .inl (cI, 220, .inl S))]) (wr := []) (w1 := [(b0, .inl (cI, 220, .inl S_3))]) (ws' := [(b0, .inl (cI, 220, .inl S_3))]) hP hD hS hA [0] [] [0] rfl rfl (by decide) (by decide) rfl (by decide) (va_runS (As := [.ref b0, .int z1, .int z0]) (rest := []) ⟨hx, hb, hml, hown, hts⟩ (kX4_shutOn l D cI cB cL b0 _ S z1 z0 r_2 S_3 h_1) (va_cwS 3 hts gX4_turn_X4_shutOn rfl rfl rfl (by decide +kernel) ⟨Nat.le_of_ble_eq_true rfl, Nat.le_of_ble_eq_true rfl⟩) (pre_S hK hE hP hD hS hA [0] rfl (by decide)) rfl rfl hl.1 rfl (lv_room (Nat.le_of_ble_eq_true rfl)) dX4_turn_140 ⟨Nat.le_of_ble_eq_true rfl, Nat.le_of_ble_eq_true rfl⟩) (fun H locs hP hD hS => ?_)
    refine lv_pop hx hb dX4_turn_143 rfl ?_
    refine lv_goto (tgt := 204) hx hb dX4_turn_144 (by decide) ?_
    cases hf
    exact rt_v hQ hx hb hr hlocks hP hD hS dX4_turn_204
  have g115 : ∀ (v2 : Int32) (z0 : Int32) (z1 : Int32) (S : Nat → Int32) (H : Heap) (locs : List Loc) (ls : Array Slot), fX4_turn_115 v2 z0 z1 S = some S' → va_P D vwCl [(b0, .inl (cI, 220, .inl S))] H → va_D A [(b0, .inl (cI, 220, .inl S))] → va_S A s.heap H locs → lv_has ls 4 [(0, .ref b0), (2, .int v2)] → W p l e rmX4_turn s m args below meth c H locs 0 0 Q (F0 m 115 ls [.int z0, .int z1, .ref b0]) := by
    intro  v2 z0 z1 S H locs ls hf hP hD hS hl
    unfold fX4_turn_115 at hf
    obtain ⟨q, h_4, hf⟩ := bd_some hf
    obtain ⟨r_5, rfl⟩ : ∃ z, z = q := ⟨_, rfl⟩
    try dsimp only at hf
    refine cl_i (ws := [(b0, .inl (cI, 220, .inl S))]) (wc := [(b0, .inl (cI, 220, .inl S))]) (wr := []) (w1 := [(b0, .inl (cI, 220, .inl S))]) (ws' := [(b0, .inl (cI, 220, .inl S))]) hP hD hS hA [0] [] [0] rfl rfl (by decide) (by decide) rfl (by decide) (va_runS (As := [.ref b0, .int z1, .int z0]) (rest := []) ⟨hx, hb, hml, hown, hts⟩ (kX4_canShut l D cI cB cL b0 _ S z1 z0 r_5 h_4) (va_cwS 3 hts gX4_turn_X4_canShut rfl rfl rfl (by decide +kernel) ⟨Nat.le_of_ble_eq_true rfl, Nat.le_of_ble_eq_true rfl⟩) (pre_S hK hE hP hD hS hA [0] rfl (by decide)) rfl rfl hl.1 rfl (lv_room (Nat.le_of_ble_eq_true rfl)) dX4_turn_115 ⟨Nat.le_of_ble_eq_true rfl, Nat.le_of_ble_eq_true rfl⟩) (fun H locs hP hD hS => ?_)
    refine lv_if_eq (tgt := 204) hx hb dX4_turn_118 (by decide) (fun c_6 => ?_) (fun c_6 => ?_)
    · have hf := br_pos c_6 hf
      cases hf
      exact rt_v hQ hx hb hr hlocks hP hD hS dX4_turn_204
    · have hf := br_neg c_6 hf
      refine lv_aload_n hx hb dX4_turn_121 rfl (lv_at hl 0 rfl) ?_
      refine lv_iload_n hx hb dX4_turn_122 rfl (lv_at hl 1 rfl) ?_
      refine lv_bipush (v := 36) hx hb dX4_turn_123 (by decide) ?_
      refine lv_irem hx hb dX4_turn_125 (by decide) ?_
      refine lv_iload_n hx hb dX4_turn_126 rfl (lv_at hl 1 rfl) ?_
      refine lv_bipush (v := 64) hx hb dX4_turn_127 (by decide) ?_
      refine lv_idiv hx hb dX4_turn_129 (by decide) ?_
      refine lv_iconst (v := 4) hx hb dX4_turn_130 (by decide) ?_
      refine lv_irem hx hb dX4_turn_131 (by decide) ?_
      refine lv_if_ne (tgt := 139) hx hb dX4_turn_132 (by decide) (fun c_7 => ?_) (fun c_7 => ?_)
      · have hf := br_neg c_7 hf
        refine lv_iconst (v := 0) hx hb dX4_turn_139 (by decide) ?_
        exact g140 0 (v2 - v2 / 36 * 36) S _ _ _ hf hP hD hS (lv_sub hl [] rfl)
      · have hf := br_pos c_7 hf
        refine lv_iconst (v := 1) hx hb dX4_turn_135 (by decide) ?_
        refine lv_goto (tgt := 140) hx hb dX4_turn_136 (by decide) ?_
        exact g140 1 (v2 - v2 / 36 * 36) S _ _ _ hf hP hD hS (lv_sub hl [] rfl)
  unfold fX4_turn at hf
  refine lv_iload_n hx hb dX4_turn_0 rfl (lv_at hl 1 rfl) ?_
  refine lv_bipush (v := 8) hx hb dX4_turn_1 (by decide) ?_
  refine lv_idiv hx hb dX4_turn_3 (by decide) ?_
  refine lv_istore_n (lv' := [(2, .int (p1 / 8)), (0, .ref b0), (1, .int p1)]) hx hb dX4_turn_4 rfl hl (by decide) rfl (fun ls hl => ?_)
  refine lv_iload_n hx hb dX4_turn_5 rfl (lv_at hl 2 rfl) ?_
  refine lv_bipush (v := 8) hx hb dX4_turn_6 (by decide) ?_
  refine lv_irem hx hb dX4_turn_8 (by decide) ?_
  refine lv_istore_n (lv' := [(3, .int (p1 - p1 / 8 * 8)), (2, .int (p1 / 8)), (0, .ref b0), (1, .int p1)]) hx hb dX4_turn_9 rfl hl (by decide) rfl (fun ls hl => ?_)
  refine lv_iload_n hx hb dX4_turn_10 rfl (lv_at hl 0 rfl) ?_
  refine lv_iconst (v := 3) hx hb dX4_turn_11 (by decide) ?_
  refine lv_icmp_ge (tgt := 72) hx hb dX4_turn_12 (by decide) (fun c_8 => ?_) (fun c_8 => ?_)
  · have hf := br_pos c_8 hf
    refine lv_iload_n hx hb dX4_turn_72 rfl (lv_at hl 0 rfl) ?_
    refine lv_iconst (v := 3) hx hb dX4_turn_73 (by decide) ?_
    refine lv_icmp_ne (tgt := 147) hx hb dX4_turn_74 (by decide) (fun c_9 => ?_) (fun c_9 => ?_)
    · have hf := br_neg c_9 hf
      refine lv_iload_n hx hb dX4_turn_147 rfl (lv_at hl 0 rfl) ?_
      refine lv_iconst (v := 4) hx hb dX4_turn_148 (by decide) ?_
      refine lv_icmp_ne (tgt := 193) hx hb dX4_turn_149 (by decide) (fun c_10 => ?_) (fun c_10 => ?_)
      · have hf := br_neg c_10 hf
        refine lv_aload_n hx hb dX4_turn_193 rfl (lv_at hl 2 rfl) ?_
        refine lv_iconst (v := 1) hx hb dX4_turn_194 (by decide) ?_
        refine lv_iload_n hx hb dX4_turn_195 rfl (lv_at hl 1 rfl) ?_
        refine lv_bipush (v := 12) hx hb dX4_turn_196 (by decide) ?_
        refine lv_irem hx hb dX4_turn_198 (by decide) ?_
        refine lv_iadd hx hb dX4_turn_199 ?_
        obtain ⟨q, h_11, hf⟩ := bd_some hf
        obtain ⟨r_12, S_13⟩ := q
        try dsimp only at hf
        refine cl_i (ws := [(b0, .inl (cI, 220, .inl S))]) (wc := [(b0, .inl (cI, 220, .inl S))]) (wr := []) (w1 := [(b0, .inl (cI, 220, .inl S_13))]) (ws' := [(b0, .inl (cI, 220, .inl S_13))]) hP hD hS hA [0] [] [0] rfl rfl (by decide) (by decide) rfl (by decide) (va_runS (As := [.ref b0, .int (1 + ((p1 / 8) - (p1 / 8) / 12 * 12))]) (rest := []) ⟨hx, hb, hml, hown, hts⟩ (kX4_ticksOn l D cI cB cL b0 _ S (1 + ((p1 / 8) - (p1 / 8) / 12 * 12)) r_12 S_13 h_11) (va_cwS 2 hts gX4_turn_X4_ticksOn rfl rfl rfl (by decide +kernel) ⟨Nat.le_of_ble_eq_true rfl, Nat.le_of_ble_eq_true rfl⟩) (pre_S hK hE hP hD hS hA [0] rfl (by decide)) rfl rfl hl.1 rfl (lv_room (Nat.le_of_ble_eq_true rfl)) dX4_turn_200 ⟨Nat.le_of_ble_eq_true rfl, Nat.le_of_ble_eq_true rfl⟩) (fun H locs hP hD hS => ?_)
        refine lv_pop hx hb dX4_turn_203 rfl ?_
        cases hf
        exact rt_v hQ hx hb hr hlocks hP hD hS dX4_turn_204
      · have hf := br_pos c_10 hf
        refine lv_iload_n hx hb dX4_turn_152 rfl (lv_at hl 1 rfl) ?_
        refine lv_bipush (v := 16) hx hb dX4_turn_153 (by decide) ?_
        refine lv_idiv hx hb dX4_turn_155 (by decide) ?_
        refine lv_iconst (v := 4) hx hb dX4_turn_156 (by decide) ?_
        refine lv_irem hx hb dX4_turn_157 (by decide) ?_
        refine lv_if_le (tgt := 170) hx hb dX4_turn_158 (by decide) (fun c_14 => ?_) (fun c_14 => ?_)
        · have hf := br_pos c_14 hf
          refine lv_aload_n hx hb dX4_turn_170 rfl (lv_at hl 2 rfl) ?_
          refine lv_iload_n hx hb dX4_turn_171 rfl (lv_at hl 1 rfl) ?_
          refine lv_bipush (v := 10) hx hb dX4_turn_172 (by decide) ?_
          refine lv_irem hx hb dX4_turn_174 (by decide) ?_
          obtain ⟨q, h_15, hf⟩ := bd_some hf
          obtain ⟨r_16, rfl⟩ : ∃ z, z = q := ⟨_, rfl⟩
          try dsimp only at hf
          refine cl_i (ws := [(b0, .inl (cI, 220, .inl S))]) (wc := [(b0, .inl (cI, 220, .inl S))]) (wr := []) (w1 := [(b0, .inl (cI, 220, .inl S))]) (ws' := [(b0, .inl (cI, 220, .inl S))]) hP hD hS hA [0] [] [0] rfl rfl (by decide) (by decide) rfl (by decide) (va_runS (As := [.ref b0, .int ((p1 / 8) - (p1 / 8) / 10 * 10)]) (rest := []) ⟨hx, hb, hml, hown, hts⟩ (kX4_canPull l D cI cB cL b0 _ S ((p1 / 8) - (p1 / 8) / 10 * 10) r_16 h_15) (va_cwS 2 hts gX4_turn_X4_canPull rfl rfl rfl (by decide +kernel) ⟨Nat.le_of_ble_eq_true rfl, Nat.le_of_ble_eq_true rfl⟩) (pre_S hK hE hP hD hS hA [0] rfl (by decide)) rfl rfl hl.1 rfl (lv_room (Nat.le_of_ble_eq_true rfl)) dX4_turn_175 ⟨Nat.le_of_ble_eq_true rfl, Nat.le_of_ble_eq_true rfl⟩) (fun H locs hP hD hS => ?_)
          refine lv_if_eq (tgt := 204) hx hb dX4_turn_178 (by decide) (fun c_17 => ?_) (fun c_17 => ?_)
          · have hf := br_pos c_17 hf
            cases hf
            exact rt_v hQ hx hb hr hlocks hP hD hS dX4_turn_204
          · have hf := br_neg c_17 hf
            refine lv_aload_n hx hb dX4_turn_181 rfl (lv_at hl 2 rfl) ?_
            refine lv_iload_n hx hb dX4_turn_182 rfl (lv_at hl 1 rfl) ?_
            refine lv_bipush (v := 10) hx hb dX4_turn_183 (by decide) ?_
            refine lv_irem hx hb dX4_turn_185 (by decide) ?_
            obtain ⟨q, h_18, hf⟩ := bd_some hf
            obtain ⟨r_19, S_20⟩ := q
            try dsimp only at hf
            refine cl_i (ws := [(b0, .inl (cI, 220, .inl S))]) (wc := [(b0, .inl (cI, 220, .inl S))]) (wr := []) (w1 := [(b0, .inl (cI, 220, .inl S_20))]) (ws' := [(b0, .inl (cI, 220, .inl S_20))]) hP hD hS hA [0] [] [0] rfl rfl (by decide) (by decide) rfl (by decide) (va_runS (As := [.ref b0, .int ((p1 / 8) - (p1 / 8) / 10 * 10)]) (rest := []) ⟨hx, hb, hml, hown, hts⟩ (kX4_pullOn l D cI cB cL b0 _ S ((p1 / 8) - (p1 / 8) / 10 * 10) r_19 S_20 h_18) (va_cwS 2 hts gX4_turn_X4_pullOn rfl rfl rfl (by decide +kernel) ⟨Nat.le_of_ble_eq_true rfl, Nat.le_of_ble_eq_true rfl⟩) (pre_S hK hE hP hD hS hA [0] rfl (by decide)) rfl rfl hl.1 rfl (lv_room (Nat.le_of_ble_eq_true rfl)) dX4_turn_186 ⟨Nat.le_of_ble_eq_true rfl, Nat.le_of_ble_eq_true rfl⟩) (fun H locs hP hD hS => ?_)
            refine lv_pop hx hb dX4_turn_189 rfl ?_
            refine lv_goto (tgt := 204) hx hb dX4_turn_190 (by decide) ?_
            cases hf
            exact rt_v hQ hx hb hr hlocks hP hD hS dX4_turn_204
        · have hf := br_neg c_14 hf
          refine lv_aload_n hx hb dX4_turn_161 rfl (lv_at hl 2 rfl) ?_
          refine lv_iconst (v := 1) hx hb dX4_turn_162 (by decide) ?_
          obtain ⟨q, h_21, hf⟩ := bd_some hf
          obtain ⟨r_22, S_23⟩ := q
          try dsimp only at hf
          refine cl_i (ws := [(b0, .inl (cI, 220, .inl S))]) (wc := [(b0, .inl (cI, 220, .inl S))]) (wr := []) (w1 := [(b0, .inl (cI, 220, .inl S_23))]) (ws' := [(b0, .inl (cI, 220, .inl S_23))]) hP hD hS hA [0] [] [0] rfl rfl (by decide) (by decide) rfl (by decide) (va_runS (As := [.ref b0, .int 1]) (rest := []) ⟨hx, hb, hml, hown, hts⟩ (kX4_ticksOn l D cI cB cL b0 _ S 1 r_22 S_23 h_21) (va_cwS 2 hts gX4_turn_X4_ticksOn rfl rfl rfl (by decide +kernel) ⟨Nat.le_of_ble_eq_true rfl, Nat.le_of_ble_eq_true rfl⟩) (pre_S hK hE hP hD hS hA [0] rfl (by decide)) rfl rfl hl.1 rfl (lv_room (Nat.le_of_ble_eq_true rfl)) dX4_turn_163 ⟨Nat.le_of_ble_eq_true rfl, Nat.le_of_ble_eq_true rfl⟩) (fun H locs hP hD hS => ?_)
          refine lv_pop hx hb dX4_turn_166 rfl ?_
          refine lv_goto (tgt := 204) hx hb dX4_turn_167 (by decide) ?_
          cases hf
          exact rt_v hQ hx hb hr hlocks hP hD hS dX4_turn_204
    · have hf := br_pos c_9 hf
      refine lv_iload_n hx hb dX4_turn_77 rfl (lv_at hl 1 rfl) ?_
      refine lv_iconst (v := 4) hx hb dX4_turn_78 (by decide) ?_
      refine lv_idiv hx hb dX4_turn_79 (by decide) ?_
      refine lv_iconst (v := 4) hx hb dX4_turn_80 (by decide) ?_
      refine lv_irem hx hb dX4_turn_81 (by decide) ?_
      refine lv_if_ne (tgt := 96) hx hb dX4_turn_82 (by decide) (fun c_24 => ?_) (fun c_24 => ?_)
      · have hf := br_neg c_24 hf
        refine lv_aload_n hx hb dX4_turn_96 rfl (lv_at hl 2 rfl) ?_
        refine lv_iload_n hx hb dX4_turn_97 rfl (lv_at hl 1 rfl) ?_
        refine lv_bipush (v := 36) hx hb dX4_turn_98 (by decide) ?_
        refine lv_irem hx hb dX4_turn_100 (by decide) ?_
        refine lv_iload_n hx hb dX4_turn_101 rfl (lv_at hl 1 rfl) ?_
        refine lv_bipush (v := 64) hx hb dX4_turn_102 (by decide) ?_
        refine lv_idiv hx hb dX4_turn_104 (by decide) ?_
        refine lv_iconst (v := 4) hx hb dX4_turn_105 (by decide) ?_
        refine lv_irem hx hb dX4_turn_106 (by decide) ?_
        refine lv_if_ne (tgt := 114) hx hb dX4_turn_107 (by decide) (fun c_25 => ?_) (fun c_25 => ?_)
        · have hf := br_neg c_25 hf
          refine lv_iconst (v := 0) hx hb dX4_turn_114 (by decide) ?_
          exact g115 (p1 / 8) 0 ((p1 / 8) - (p1 / 8) / 36 * 36) S _ _ _ hf hP hD hS (lv_sub hl [2, 1] rfl)
        · have hf := br_pos c_25 hf
          refine lv_iconst (v := 1) hx hb dX4_turn_110 (by decide) ?_
          refine lv_goto (tgt := 115) hx hb dX4_turn_111 (by decide) ?_
          exact g115 (p1 / 8) 1 ((p1 / 8) - (p1 / 8) / 36 * 36) S _ _ _ hf hP hD hS (lv_sub hl [2, 1] rfl)
      · have hf := br_pos c_24 hf
        refine lv_aload_n hx hb dX4_turn_85 rfl (lv_at hl 2 rfl) ?_
        refine lv_iload_n hx hb dX4_turn_86 rfl (lv_at hl 1 rfl) ?_
        refine lv_iconst (v := 3) hx hb dX4_turn_87 (by decide) ?_
        refine lv_irem hx hb dX4_turn_88 (by decide) ?_
        obtain ⟨q, h_26, hf⟩ := bd_some hf
        obtain ⟨r_27, S_28⟩ := q
        try dsimp only at hf
        refine cl_i (ws := [(b0, .inl (cI, 220, .inl S))]) (wc := [(b0, .inl (cI, 220, .inl S))]) (wr := []) (w1 := [(b0, .inl (cI, 220, .inl S_28))]) (ws' := [(b0, .inl (cI, 220, .inl S_28))]) hP hD hS hA [0] [] [0] rfl rfl (by decide) (by decide) rfl (by decide) (va_runS (As := [.ref b0, .int ((p1 / 8) - (p1 / 8) / 3 * 3)]) (rest := []) ⟨hx, hb, hml, hown, hts⟩ (kX4_ruleOn l D cI cB cL b0 _ S ((p1 / 8) - (p1 / 8) / 3 * 3) r_27 S_28 h_26) (va_cwS 2 hts gX4_turn_X4_ruleOn rfl rfl rfl (by decide +kernel) ⟨Nat.le_of_ble_eq_true rfl, Nat.le_of_ble_eq_true rfl⟩) (pre_S hK hE hP hD hS hA [0] rfl (by decide)) rfl rfl hl.1 rfl (lv_room (Nat.le_of_ble_eq_true rfl)) dX4_turn_89 ⟨Nat.le_of_ble_eq_true rfl, Nat.le_of_ble_eq_true rfl⟩) (fun H locs hP hD hS => ?_)
        refine lv_pop hx hb dX4_turn_92 rfl ?_
        refine lv_goto (tgt := 204) hx hb dX4_turn_93 (by decide) ?_
        cases hf
        exact rt_v hQ hx hb hr hlocks hP hD hS dX4_turn_204
  · have hf := br_neg c_8 hf
    refine lv_aload_n hx hb dX4_turn_15 rfl (lv_at hl 2 rfl) ?_
    refine lv_iload_n hx hb dX4_turn_16 rfl (lv_at hl 1 rfl) ?_
    refine lv_bipush (v := 36) hx hb dX4_turn_17 (by decide) ?_
    refine lv_irem hx hb dX4_turn_19 (by decide) ?_
    refine lv_iload_n hx hb dX4_turn_20 rfl (lv_at hl 1 rfl) ?_
    refine lv_bipush (v := 36) hx hb dX4_turn_21 (by decide) ?_
    refine lv_idiv hx hb dX4_turn_23 (by decide) ?_
    refine lv_bipush (v := 36) hx hb dX4_turn_24 (by decide) ?_
    refine lv_irem hx hb dX4_turn_26 (by decide) ?_
    refine lv_iconst (v := 1) hx hb dX4_turn_27 (by decide) ?_
    refine lv_iload_n hx hb dX4_turn_28 rfl (lv_at hl 1 rfl) ?_
    refine lv_sipush (v := 1296) hx hb dX4_turn_29 (by decide) ?_
    refine lv_idiv hx hb dX4_turn_32 (by decide) ?_
    refine lv_bipush (v := 9) hx hb dX4_turn_33 (by decide) ?_
    refine lv_irem hx hb dX4_turn_35 (by decide) ?_
    refine lv_iadd hx hb dX4_turn_36 ?_
    obtain ⟨q, h_29, hf⟩ := bd_some hf
    obtain ⟨r_30, rfl⟩ : ∃ z, z = q := ⟨_, rfl⟩
    try dsimp only at hf
    refine cl_i (ws := [(b0, .inl (cI, 220, .inl S))]) (wc := [(b0, .inl (cI, 220, .inl S))]) (wr := []) (w1 := [(b0, .inl (cI, 220, .inl S))]) (ws' := [(b0, .inl (cI, 220, .inl S))]) hP hD hS hA [0] [] [0] rfl rfl (by decide) (by decide) rfl (by decide) (va_runS (As := [.ref b0, .int ((p1 / 8) - (p1 / 8) / 36 * 36), .int (((p1 / 8) / 36) - ((p1 / 8) / 36) / 36 * 36), .int (1 + (((p1 / 8) / 1296) - ((p1 / 8) / 1296) / 9 * 9))]) (rest := []) ⟨hx, hb, hml, hown, hts⟩ (kX4_canHatch l D cI cB cL b0 _ S ((p1 / 8) - (p1 / 8) / 36 * 36) (((p1 / 8) / 36) - ((p1 / 8) / 36) / 36 * 36) (1 + (((p1 / 8) / 1296) - ((p1 / 8) / 1296) / 9 * 9)) r_30 h_29) (va_cwS 4 hts gX4_turn_X4_canHatch rfl rfl rfl (by decide +kernel) ⟨Nat.le_of_ble_eq_true rfl, Nat.le_of_ble_eq_true rfl⟩) (pre_S hK hE hP hD hS hA [0] rfl (by decide)) rfl rfl hl.1 rfl (lv_room (Nat.le_of_ble_eq_true rfl)) dX4_turn_37 ⟨Nat.le_of_ble_eq_true rfl, Nat.le_of_ble_eq_true rfl⟩) (fun H locs hP hD hS => ?_)
    refine lv_if_eq (tgt := 204) hx hb dX4_turn_40 (by decide) (fun c_31 => ?_) (fun c_31 => ?_)
    · have hf := br_pos c_31 hf
      cases hf
      exact rt_v hQ hx hb hr hlocks hP hD hS dX4_turn_204
    · have hf := br_neg c_31 hf
      refine lv_aload_n hx hb dX4_turn_43 rfl (lv_at hl 2 rfl) ?_
      refine lv_iload_n hx hb dX4_turn_44 rfl (lv_at hl 1 rfl) ?_
      refine lv_bipush (v := 36) hx hb dX4_turn_45 (by decide) ?_
      refine lv_irem hx hb dX4_turn_47 (by decide) ?_
      refine lv_iload_n hx hb dX4_turn_48 rfl (lv_at hl 1 rfl) ?_
      refine lv_bipush (v := 36) hx hb dX4_turn_49 (by decide) ?_
      refine lv_idiv hx hb dX4_turn_51 (by decide) ?_
      refine lv_bipush (v := 36) hx hb dX4_turn_52 (by decide) ?_
      refine lv_irem hx hb dX4_turn_54 (by decide) ?_
      refine lv_iconst (v := 1) hx hb dX4_turn_55 (by decide) ?_
      refine lv_iload_n hx hb dX4_turn_56 rfl (lv_at hl 1 rfl) ?_
      refine lv_sipush (v := 1296) hx hb dX4_turn_57 (by decide) ?_
      refine lv_idiv hx hb dX4_turn_60 (by decide) ?_
      refine lv_bipush (v := 9) hx hb dX4_turn_61 (by decide) ?_
      refine lv_irem hx hb dX4_turn_63 (by decide) ?_
      refine lv_iadd hx hb dX4_turn_64 ?_
      obtain ⟨q, h_32, hf⟩ := bd_some hf
      obtain ⟨r_33, S_34⟩ := q
      try dsimp only at hf
      refine cl_i (ws := [(b0, .inl (cI, 220, .inl S))]) (wc := [(b0, .inl (cI, 220, .inl S))]) (wr := []) (w1 := [(b0, .inl (cI, 220, .inl S_34))]) (ws' := [(b0, .inl (cI, 220, .inl S_34))]) hP hD hS hA [0] [] [0] rfl rfl (by decide) (by decide) rfl (by decide) (va_runS (As := [.ref b0, .int ((p1 / 8) - (p1 / 8) / 36 * 36), .int (((p1 / 8) / 36) - ((p1 / 8) / 36) / 36 * 36), .int (1 + (((p1 / 8) / 1296) - ((p1 / 8) / 1296) / 9 * 9))]) (rest := []) ⟨hx, hb, hml, hown, hts⟩ (kX4_hatchOn l D cI cB cL b0 _ S ((p1 / 8) - (p1 / 8) / 36 * 36) (((p1 / 8) / 36) - ((p1 / 8) / 36) / 36 * 36) (1 + (((p1 / 8) / 1296) - ((p1 / 8) / 1296) / 9 * 9)) r_33 S_34 h_32) (va_cwS 4 hts gX4_turn_X4_hatchOn rfl rfl rfl (by decide +kernel) ⟨Nat.le_of_ble_eq_true rfl, Nat.le_of_ble_eq_true rfl⟩) (pre_S hK hE hP hD hS hA [0] rfl (by decide)) rfl rfl hl.1 rfl (lv_room (Nat.le_of_ble_eq_true rfl)) dX4_turn_65 ⟨Nat.le_of_ble_eq_true rfl, Nat.le_of_ble_eq_true rfl⟩) (fun H locs hP hD hS => ?_)
      refine lv_pop hx hb dX4_turn_68 rfl ?_
      refine lv_goto (tgt := 204) hx hb dX4_turn_69 (by decide) ?_
      cases hf
      exact rt_v hQ hx hb hr hlocks hP hD hS dX4_turn_204
