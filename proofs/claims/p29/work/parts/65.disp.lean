/-! THE CALLS BY THEIR NUMBERS -/
section DSP
variable {la cn us : Int32} {ch C G sv T B : Nat → Int32} {y z w : Int32}
theorem dc_0 : fM_call la cn us ch C G sv T B 0 y z w = (fM_tryAppend la cn us ch C G sv T B y).bind fun r => some (r, la, cn, C, G, sv, B) := by
  unfold fM_call
  rw [if_pos rfl]
theorem dc_2 : fM_call la cn us ch C G sv T B 2 y z w = (fM_tryAbout la cn us ch C G sv T B y).bind fun r => some (r, la, cn, C, G, sv, B) := by
  unfold fM_call
  rw [if_neg (show ¬ (2 : Int32) = 0 from by decide), if_neg (show ¬ (2 : Int32) = 1 from by decide), if_pos rfl]
theorem dc_3 : fM_call la cn us ch C G sv T B 3 y z w = (fM_tryCat la cn us ch C G sv T B y z).bind fun r => some (r, la, cn, C, G, sv, B) := by
  unfold fM_call
  rw [if_neg (show ¬ (3 : Int32) = 0 from by decide), if_neg (show ¬ (3 : Int32) = 1 from by decide), if_neg (show ¬ (3 : Int32) = 2 from by decide), if_pos rfl]
theorem dc_4 : fM_call la cn us ch C G sv T B 4 y z w = (fM_tryLies la cn us ch C G sv T B y z).bind fun r => some (r, la, cn, C, G, sv, B) := by
  unfold fM_call
  rw [if_neg (show ¬ (4 : Int32) = 0 from by decide), if_neg (show ¬ (4 : Int32) = 1 from by decide), if_neg (show ¬ (4 : Int32) = 2 from by decide), if_neg (show ¬ (4 : Int32) = 3 from by decide), if_pos rfl]
theorem dc_5 : fM_call la cn us ch C G sv T B 5 y z w = (fM_tryRoom la cn us ch C G sv T B y z).bind fun r => some (r, la, cn, C, G, sv, B) := by
  unfold fM_call
  rw [if_neg (show ¬ (5 : Int32) = 0 from by decide), if_neg (show ¬ (5 : Int32) = 1 from by decide), if_neg (show ¬ (5 : Int32) = 2 from by decide), if_neg (show ¬ (5 : Int32) = 3 from by decide), if_neg (show ¬ (5 : Int32) = 4 from by decide), if_pos rfl]
theorem dc_6 : fM_call la cn us ch C G sv T B 6 y z w = (fM_tryNext la cn us ch C G sv T B y).bind fun r => some (r, la, cn, C, G, sv, B) := by
  unfold fM_call
  rw [if_neg (show ¬ (6 : Int32) = 0 from by decide), if_neg (show ¬ (6 : Int32) = 1 from by decide), if_neg (show ¬ (6 : Int32) = 2 from by decide), if_neg (show ¬ (6 : Int32) = 3 from by decide), if_neg (show ¬ (6 : Int32) = 4 from by decide), if_neg (show ¬ (6 : Int32) = 5 from by decide), if_pos rfl]
theorem dc_7 : fM_call la cn us ch C G sv T B 7 y z w = (fM_tryWaits la cn us ch C G sv T B y).bind fun r => some (r, la, cn, C, G, sv, B) := by
  unfold fM_call
  rw [if_neg (show ¬ (7 : Int32) = 0 from by decide), if_neg (show ¬ (7 : Int32) = 1 from by decide), if_neg (show ¬ (7 : Int32) = 2 from by decide), if_neg (show ¬ (7 : Int32) = 3 from by decide), if_neg (show ¬ (7 : Int32) = 4 from by decide), if_neg (show ¬ (7 : Int32) = 5 from by decide), if_neg (show ¬ (7 : Int32) = 6 from by decide), if_pos rfl]
theorem dc_8 : fM_call la cn us ch C G sv T B 8 y z w = (fM_tryRing la cn us ch C G sv T B y).bind fun r => some (r, la, cn, C, G, sv, B) := by
  unfold fM_call
  rw [if_neg (show ¬ (8 : Int32) = 0 from by decide), if_neg (show ¬ (8 : Int32) = 1 from by decide), if_neg (show ¬ (8 : Int32) = 2 from by decide), if_neg (show ¬ (8 : Int32) = 3 from by decide), if_neg (show ¬ (8 : Int32) = 4 from by decide), if_neg (show ¬ (8 : Int32) = 5 from by decide), if_neg (show ¬ (8 : Int32) = 6 from by decide), if_neg (show ¬ (8 : Int32) = 7 from by decide), if_pos rfl]
theorem dc_9 : fM_call la cn us ch C G sv T B 9 y z w = (fM_tryHatch la cn us ch C G sv T B y z w).bind fun (r, a1, a2, a3, a4) => some (r, a1, a2, a3, a4, sv, B) := by
  unfold fM_call
  rw [if_neg (show ¬ (9 : Int32) = 0 from by decide), if_neg (show ¬ (9 : Int32) = 1 from by decide), if_neg (show ¬ (9 : Int32) = 2 from by decide), if_neg (show ¬ (9 : Int32) = 3 from by decide), if_neg (show ¬ (9 : Int32) = 4 from by decide), if_neg (show ¬ (9 : Int32) = 5 from by decide), if_neg (show ¬ (9 : Int32) = 6 from by decide), if_neg (show ¬ (9 : Int32) = 7 from by decide), if_neg (show ¬ (9 : Int32) = 8 from by decide), if_pos rfl]
theorem dc_10 : fM_call la cn us ch C G sv T B 10 y z w = (fM_tryTicks la cn us ch C G sv T B y).bind fun (r, a1, a2, a3, a4) => some (r, a1, a2, a3, a4, sv, B) := by
  unfold fM_call
  rw [if_neg (show ¬ (10 : Int32) = 0 from by decide), if_neg (show ¬ (10 : Int32) = 1 from by decide), if_neg (show ¬ (10 : Int32) = 2 from by decide), if_neg (show ¬ (10 : Int32) = 3 from by decide), if_neg (show ¬ (10 : Int32) = 4 from by decide), if_neg (show ¬ (10 : Int32) = 5 from by decide), if_neg (show ¬ (10 : Int32) = 6 from by decide), if_neg (show ¬ (10 : Int32) = 7 from by decide), if_neg (show ¬ (10 : Int32) = 8 from by decide), if_neg (show ¬ (10 : Int32) = 9 from by decide), if_pos rfl]
theorem dc_11 : fM_call la cn us ch C G sv T B 11 y z w = (fM_tryRule la cn us ch C G sv T B y).bind fun (r, a1, a2, a3, a4) => some (r, a1, a2, a3, a4, sv, B) := by
  unfold fM_call
  rw [if_neg (show ¬ (11 : Int32) = 0 from by decide), if_neg (show ¬ (11 : Int32) = 1 from by decide), if_neg (show ¬ (11 : Int32) = 2 from by decide), if_neg (show ¬ (11 : Int32) = 3 from by decide), if_neg (show ¬ (11 : Int32) = 4 from by decide), if_neg (show ¬ (11 : Int32) = 5 from by decide), if_neg (show ¬ (11 : Int32) = 6 from by decide), if_neg (show ¬ (11 : Int32) = 7 from by decide), if_neg (show ¬ (11 : Int32) = 8 from by decide), if_neg (show ¬ (11 : Int32) = 9 from by decide), if_neg (show ¬ (11 : Int32) = 10 from by decide), if_pos rfl]
theorem dc_12 : fM_call la cn us ch C G sv T B 12 y z w = (fM_tryPull la cn us ch C G sv T B y).bind fun (r, a1, a2, a3, a4) => some (r, a1, a2, a3, a4, sv, B) := by
  unfold fM_call
  rw [if_neg (show ¬ (12 : Int32) = 0 from by decide), if_neg (show ¬ (12 : Int32) = 1 from by decide), if_neg (show ¬ (12 : Int32) = 2 from by decide), if_neg (show ¬ (12 : Int32) = 3 from by decide), if_neg (show ¬ (12 : Int32) = 4 from by decide), if_neg (show ¬ (12 : Int32) = 5 from by decide), if_neg (show ¬ (12 : Int32) = 6 from by decide), if_neg (show ¬ (12 : Int32) = 7 from by decide), if_neg (show ¬ (12 : Int32) = 8 from by decide), if_neg (show ¬ (12 : Int32) = 9 from by decide), if_neg (show ¬ (12 : Int32) = 10 from by decide), if_neg (show ¬ (12 : Int32) = 11 from by decide), if_pos rfl]
theorem dc_13 : fM_call la cn us ch C G sv T B 13 y z w = (fM_tryUndo la cn us ch C G sv T B).bind fun (r, a1, a2, a3) => some (r, a1, a2, a3, G, sv, B) := by
  unfold fM_call
  rw [if_neg (show ¬ (13 : Int32) = 0 from by decide), if_neg (show ¬ (13 : Int32) = 1 from by decide), if_neg (show ¬ (13 : Int32) = 2 from by decide), if_neg (show ¬ (13 : Int32) = 3 from by decide), if_neg (show ¬ (13 : Int32) = 4 from by decide), if_neg (show ¬ (13 : Int32) = 5 from by decide), if_neg (show ¬ (13 : Int32) = 6 from by decide), if_neg (show ¬ (13 : Int32) = 7 from by decide), if_neg (show ¬ (13 : Int32) = 8 from by decide), if_neg (show ¬ (13 : Int32) = 9 from by decide), if_neg (show ¬ (13 : Int32) = 10 from by decide), if_neg (show ¬ (13 : Int32) = 11 from by decide), if_neg (show ¬ (13 : Int32) = 12 from by decide), if_pos rfl]
theorem dc_14 : fM_call la cn us ch C G sv T B 14 y z w = (fM_tryGone la cn us ch C G sv T B y).bind fun (r, a1) => some (r, la, cn, C, G, sv, a1) := by
  unfold fM_call
  rw [if_neg (show ¬ (14 : Int32) = 0 from by decide), if_neg (show ¬ (14 : Int32) = 1 from by decide), if_neg (show ¬ (14 : Int32) = 2 from by decide), if_neg (show ¬ (14 : Int32) = 3 from by decide), if_neg (show ¬ (14 : Int32) = 4 from by decide), if_neg (show ¬ (14 : Int32) = 5 from by decide), if_neg (show ¬ (14 : Int32) = 6 from by decide), if_neg (show ¬ (14 : Int32) = 7 from by decide), if_neg (show ¬ (14 : Int32) = 8 from by decide), if_neg (show ¬ (14 : Int32) = 9 from by decide), if_neg (show ¬ (14 : Int32) = 10 from by decide), if_neg (show ¬ (14 : Int32) = 11 from by decide), if_neg (show ¬ (14 : Int32) = 12 from by decide), if_neg (show ¬ (14 : Int32) = 13 from by decide), if_pos rfl]
theorem dc_15 : fM_call la cn us ch C G sv T B 15 y z w = (fM_tryIf la cn us ch C G sv T B y z w).bind fun r => some (r, la, cn, C, G, sv, B) := by
  unfold fM_call
  rw [if_neg (show ¬ (15 : Int32) = 0 from by decide), if_neg (show ¬ (15 : Int32) = 1 from by decide), if_neg (show ¬ (15 : Int32) = 2 from by decide), if_neg (show ¬ (15 : Int32) = 3 from by decide), if_neg (show ¬ (15 : Int32) = 4 from by decide), if_neg (show ¬ (15 : Int32) = 5 from by decide), if_neg (show ¬ (15 : Int32) = 6 from by decide), if_neg (show ¬ (15 : Int32) = 7 from by decide), if_neg (show ¬ (15 : Int32) = 8 from by decide), if_neg (show ¬ (15 : Int32) = 9 from by decide), if_neg (show ¬ (15 : Int32) = 10 from by decide), if_neg (show ¬ (15 : Int32) = 11 from by decide), if_neg (show ¬ (15 : Int32) = 12 from by decide), if_neg (show ¬ (15 : Int32) = 13 from by decide), if_neg (show ¬ (15 : Int32) = 14 from by decide), if_pos rfl]
theorem dc_16 : fM_call la cn us ch C G sv T B 16 y z w = (fM_tryKeep la cn us ch C G sv T B y).bind fun (r, a1, a2) => some (r, la, cn, C, a1, a2, B) := by
  unfold fM_call
  rw [if_neg (show ¬ (16 : Int32) = 0 from by decide), if_neg (show ¬ (16 : Int32) = 1 from by decide), if_neg (show ¬ (16 : Int32) = 2 from by decide), if_neg (show ¬ (16 : Int32) = 3 from by decide), if_neg (show ¬ (16 : Int32) = 4 from by decide), if_neg (show ¬ (16 : Int32) = 5 from by decide), if_neg (show ¬ (16 : Int32) = 6 from by decide), if_neg (show ¬ (16 : Int32) = 7 from by decide), if_neg (show ¬ (16 : Int32) = 8 from by decide), if_neg (show ¬ (16 : Int32) = 9 from by decide), if_neg (show ¬ (16 : Int32) = 10 from by decide), if_neg (show ¬ (16 : Int32) = 11 from by decide), if_neg (show ¬ (16 : Int32) = 12 from by decide), if_neg (show ¬ (16 : Int32) = 13 from by decide), if_neg (show ¬ (16 : Int32) = 14 from by decide), if_neg (show ¬ (16 : Int32) = 15 from by decide), if_pos rfl]
theorem dc_17 : fM_call la cn us ch C G sv T B 17 y z w = (fM_tryBack la cn us ch C G sv T B y).bind fun (r, a1, a2) => some (r, la, a1, a2, G, sv, B) := by
  unfold fM_call
  rw [if_neg (show ¬ (17 : Int32) = 0 from by decide), if_neg (show ¬ (17 : Int32) = 1 from by decide), if_neg (show ¬ (17 : Int32) = 2 from by decide), if_neg (show ¬ (17 : Int32) = 3 from by decide), if_neg (show ¬ (17 : Int32) = 4 from by decide), if_neg (show ¬ (17 : Int32) = 5 from by decide), if_neg (show ¬ (17 : Int32) = 6 from by decide), if_neg (show ¬ (17 : Int32) = 7 from by decide), if_neg (show ¬ (17 : Int32) = 8 from by decide), if_neg (show ¬ (17 : Int32) = 9 from by decide), if_neg (show ¬ (17 : Int32) = 10 from by decide), if_neg (show ¬ (17 : Int32) = 11 from by decide), if_neg (show ¬ (17 : Int32) = 12 from by decide), if_neg (show ¬ (17 : Int32) = 13 from by decide), if_neg (show ¬ (17 : Int32) = 14 from by decide), if_neg (show ¬ (17 : Int32) = 15 from by decide), if_neg (show ¬ (17 : Int32) = 16 from by decide)]
end DSP
