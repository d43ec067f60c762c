/-! RINGS: they stay, if the rule is not 2; none waits for itself -/
section RGX
variable {σ τ : Nat → Nat} {i j k w v n : Nat}
theorem dst_row (hW : WF σ) (hX : XF σ) (hi : i < σ 0) : ∀ p, p < σ (40 + 18 * i + 1) → dst (σ (40 + 18 * i + (9 + p))) (σ (40 + 18 * i + 7)) = dst (σ (40 + 18 * i + 9)) (σ (40 + 18 * i + 7)) + p := by
  have hc := hW.2.2.2.1 i hi
  intro p
  induction p with
  | zero => intro _; rfl
  | succ p ih =>
    intro hp
    have h1 := ih (by omega)
    have r0 := hc.2.2.2.2.2.2.1 p (by omega)
    have r1 := hc.2.2.2.2.2.2.1 (p + 1) hp
    rcases (hX.1 i hi).2.2.2.2.2.1 p hp with e | e
    · rcases alR_dst _ r1 _ hc.2.2.2.2.1 with z | ⟨z, _⟩
      · rw [← e] at z; omega
      · rw [← e] at z; omega
    · rcases alC_dst _ r1 _ hc.2.2.2.2.1 with z | ⟨z, _⟩
      · rw [← e] at z; omega
      · rw [← e] at z; omega
theorem row_near (hW : WF σ) (hX : XF σ) (hi : i < σ 0) {p : Nat} (hp : p + 1 < σ (40 + 18 * i + 1)) : nrb (σ (40 + 18 * i + (9 + p))) (σ (40 + 18 * i + (9 + (p + 1)))) = true := by
  have hc := hW.2.2.2.1 i hi
  have r0 := hc.2.2.2.2.2.2.1 p (by omega)
  have r1 := hc.2.2.2.2.2.2.1 (p + 1) hp
  rcases (hX.1 i hi).2.2.2.2.2.1 p hp with e | e
  · rcases alR_dst _ r1 _ hc.2.2.2.2.1 with z | ⟨_, z⟩
    · rw [← e] at z; omega
    · rw [← e] at z; exact z
  · rcases alC_dst _ r1 _ hc.2.2.2.2.1 with z | ⟨_, z⟩
    · rw [← e] at z; omega
    · rw [← e] at z; exact z
/-- the next room of one that is out: nearer, a neighbour -/
theorem nr_dst (hW : WF σ) (hi : i < σ 0) (h1 : σ (40 + 18 * i) = 1) (he : eats σ i = false) : dst (nr σ i) (σ (40 + 18 * i + 7)) + 1 = dst (σ (40 + 18 * i + 9)) (σ (40 + 18 * i + 7)) ∧ nrb (nr σ i) (σ (40 + 18 * i + 9)) = true := by
  have hc := hW.2.2.2.1 i hi
  have r0 : σ (40 + 18 * i + 9) < 36 := hc.2.2.2.2.2.2.1 0 (by have := hc.2.2.2.2.2.2.2.1 h1; omega)
  have hn := nr_in hW hi h1 he
  rcases nr_al σ i with e | e
  · rcases alR_dst _ r0 _ hc.2.2.2.2.1 with z | z
    · rw [← e] at z; omega
    · rw [← e] at z; exact z
  · rcases alC_dst _ r0 _ hc.2.2.2.2.1 with z | z
    · rw [← e] at z; omega
    · rw [← e] at z; exact z
theorem wants_0 (h0 : σ (40 + 18 * i) = 0) : wants σ i = σ (40 + 18 * i + 6) := by unfold wants; rw [if_pos h0]
theorem wants_out (h1 : σ (40 + 18 * i) = 1) (he : eats σ i = false) : wants σ i = nr σ i := by
  unfold wants
  rw [if_neg (by omega), if_pos ⟨h1, he⟩]
/-- it doesn't lie in the room that it wants -/
theorem wants_free (hW : WF σ) (hX : XF σ) (hi : i < σ 0) (hn : wants σ i ≠ 4294967295) : occ σ i (wants σ i) = false := by
  have hc := hW.2.2.2.1 i hi
  have h1 := wants_1 hn
  cases ho : occ σ i (wants σ i)
  · rfl
  · obtain ⟨p, p1, p2⟩ := occ_iff.mp ho
    by_cases z : σ (40 + 18 * i) = 0
    · have := hc.2.2.2.2.2.2.2.2.1 (by omega); omega
    · have z1 : σ (40 + 18 * i) = 1 := by omega
      have he : eats σ i = false := by
        cases ge : eats σ i
        · rfl
        · exact absurd ((wants_no hW hi h1).mpr ge) hn
      have d1 := dst_row hW hX hi p p1
      have d2 := (nr_dst hW hi z1 he).1
      rw [p2, wants_out z1 he] at d1
      omega
theorem blk_ne (hW : WF σ) (hX : XF σ) (hi : i < σ 0) : blk σ i ≠ i := by
  unfold blk
  have h0 := hW.1
  split
  · omega
  · rename_i g
    intro e
    rcases tk_cases σ (wants σ i) with ⟨a, _⟩ | ⟨_, b⟩
    · omega
    · rw [e, wants_free hW hX hi g] at b
      cases b
/-- a set of which each waits for one of it, with another rule than 2 -/
def RS (σ : Nat → Nat) (R : Nat → Prop) : Prop := σ 2 ≠ 2 ∧ ∀ i, R i → i < σ 0 ∧ blk σ i ≠ 4294967295 ∧ R (blk σ i)
theorem blk_wn (h : blk σ i ≠ 4294967295) : wants σ i ≠ 4294967295 ∧ tk σ (wants σ i) = blk σ i := by
  unfold blk at h ⊢
  by_cases g : wants σ i = 4294967295
  · rw [if_pos g] at h; exact absurd rfl h
  · rw [if_neg g]; exact ⟨g, rfl⟩
theorem blk_act (h : blk σ i ≠ 4294967295) (hW : WF σ) (hi : i < σ 0) : act σ i = waitN σ i := by
  obtain ⟨g1, g2⟩ := blk_wn h
  have h1 := wants_1 g1
  have he : eats σ i = false := by
    cases ge : eats σ i
    · rfl
    · exact absurd ((wants_no hW hi h1).mpr ge) g1
  have hf : fr σ (wants σ i) = false := by
    cases gf : fr σ (wants σ i)
    · rfl
    · rw [fr_tk gf] at g2; exact absurd g2.symm h
  unfold act
  rw [he, if_neg (by decide), if_neg g1, hf, if_neg (by decide)]
theorem nrB_n2 (h : σ 2 ≠ 2) (h2 : τ 2 = σ 2) (r c : Nat) : nrB τ r c = nrB σ r c := by
  unfold nrB
  rw [h2, beq_eq_false_iff_ne.mpr h]
  simp
theorem wants_same (h : σ 2 ≠ 2) (h2 : τ 2 = σ 2) (ho : ∀ w, w < 18 → w ≠ 4 → τ (40 + 18 * i + w) = σ (40 + 18 * i + w)) : wants τ i = wants σ i := by
  have e0 : τ (40 + 18 * i) = σ (40 + 18 * i) := ho 0 (by omega) (by omega)
  have e6 := ho 6 (by omega) (by omega)
  have e7 := ho 7 (by omega) (by omega)
  have e9 := ho 9 (by omega) (by omega)
  unfold wants nr nrF eats
  rw [e0, e6, e7, e9, nrB_n2 h h2]
theorem RS_act {R : Nat → Prop} (hW : WF σ) (h : RS σ R) (hj : j < σ 0) : RS (act σ j) R ∧ ∀ i, R i → blk (act σ j) i = blk σ i ∧ act σ j (40 + 18 * i) = σ (40 + 18 * i) := by
  obtain ⟨h2, hR⟩ := h
  have hW2 := act_WF hW hj
  have z0 : act σ j 0 = σ 0 := act_0 (by omega) (by omega)
  have z2 : act σ j 2 = σ 2 := act_0 (by omega) (by omega)
  have key : ∀ i, R i → blk (act σ j) i = blk σ i ∧ act σ j (40 + 18 * i) = σ (40 + 18 * i) := by
    intro i hi
    obtain ⟨a1, a2, a3⟩ := hR i hi
    obtain ⟨b1, b2⟩ := blk_wn a2
    by_cases hj2 : R j
    · obtain ⟨c1, c2, c3⟩ := hR j hj2
      have e : act σ j = waitN σ j := blk_act c2 hW hj
      have cr : Cor σ (act σ j) := by rw [e]; exact waitN_cor
      refine ⟨?_, cr.at0 i⟩
      unfold blk
      rw [cr.wants hW a1, cr.tk hW]
    · have hne : i ≠ j := fun e => hj2 (e ▸ hi)
      have ho : ∀ w, w < 18 → act σ j (40 + 18 * i + w) = σ (40 + 18 * i + w) := fun w hw => act_j hne hw
      refine ⟨?_, ho 0 (by omega)⟩
      have ew := wants_same (i := i) h2 z2 (fun w hw _ => ho w hw)
      have hb : blk σ i ≠ j := fun e => hj2 (e ▸ a3)
      obtain ⟨d1, _, _⟩ := hR _ a3
      rcases tk_cases σ (wants σ i) with ⟨t1, _⟩ | ⟨t1, t2⟩
      · rw [t1] at b2; exact absurd b2.symm a2
      · rw [b2] at t2
        have o2 : occ (act σ j) (blk σ i) (wants σ i) = true := by
          rw [occ_j (CW_lies (hW.2.2.2.1 _ d1)) (fun w hw => act_j hb hw)]
          exact t2
        have t3 := tk_of hW2 (by rw [z0]; exact d1) o2
        show (if wants (act σ j) i = 4294967295 then 4294967295 else tk (act σ j) (wants (act σ j) i)) = blk σ i
        rw [ew, if_neg b1, t3]
  refine ⟨⟨by rw [z2]; exact h2, fun i hi => ?_⟩, key⟩
  obtain ⟨a1, a2, a3⟩ := hR i hi
  rw [(key i hi).1, z0]
  exact ⟨a1, a2, a3⟩
theorem RS_acts {R : Nat → Prop} : ∀ n i (σ : Nat → Nat), WF σ → RS σ R → i + n ≤ σ 0 → RS (actsN σ n i) R ∧ ∀ j, R j → blk (actsN σ n i) j = blk σ j ∧ actsN σ n i (40 + 18 * j) = σ (40 + 18 * j) := by
  intro n
  induction n with
  | zero => intro i σ _ h _; exact ⟨h, fun _ _ => ⟨rfl, rfl⟩⟩
  | succ n ih =>
    intro i σ hW h hi
    rw [actsN]
    have z0 : act σ i 0 = σ 0 := act_0 (by omega) (by omega)
    obtain ⟨a, b⟩ := RS_act hW h (show i < σ 0 by omega)
    obtain ⟨c, d⟩ := ih (i + 1) _ (act_WF hW (by omega)) a (by omega)
    exact ⟨c, fun j hj => ⟨(d j hj).1.trans (b j hj).1, (d j hj).2.trans (b j hj).2⟩⟩
theorem RS_tick {R : Nat → Prop} (hW : WF σ) (h : RS σ R) : RS (tickN σ) R ∧ ∀ j, R j → blk (tickN σ) j = blk σ j ∧ tickN σ (40 + 18 * j) = σ (40 + 18 * j) := by
  obtain ⟨a, b⟩ := RS_acts (σ 0) 0 σ hW h (by omega)
  have hW2 := actsN_WF (σ 0) 0 σ hW (by omega)
  have e0 : actsN σ (σ 0) 0 0 = σ 0 := actsN_lo (by omega) (by omega) _ _ _
  have cr : Cor (actsN σ (σ 0) 0) (tickN σ) := up1_cor _
  have eb : ∀ j, R j → blk (tickN σ) j = blk (actsN σ (σ 0) 0) j := fun j hj => by
    unfold blk
    rw [cr.wants hW2 (a.2 j hj).1, cr.tk hW2]
  refine ⟨⟨?_, fun j hj => ?_⟩, fun j hj => ⟨(eb j hj).trans (b j hj).1, (cr.at0 j).trans (b j hj).2⟩⟩
  · rw [tick_lo (by omega) (by omega) (by omega)]
    exact h.1
  · obtain ⟨c1, c2, c3⟩ := a.2 j hj
    rw [eb j hj, tick_0]
    exact ⟨by omega, c2, c3⟩
theorem RS_ticks {R : Nat → Prop} : ∀ n (σ : Nat → Nat), WF σ → RS σ R → RS (ticksN σ n) R ∧ ∀ j, R j → blk (ticksN σ n) j = blk σ j ∧ ticksN σ n (40 + 18 * j) = σ (40 + 18 * j) := by
  intro n
  induction n with
  | zero => intro σ _ h; exact ⟨h, fun _ _ => ⟨rfl, rfl⟩⟩
  | succ n ih =>
    intro σ hW h
    rw [ticksN]
    obtain ⟨a, b⟩ := RS_tick hW h
    obtain ⟨c, d⟩ := ih _ (tick_WF hW) a
    exact ⟨c, fun j hj => ⟨(d j hj).1.trans (b j hj).1, (d j hj).2.trans (b j hj).2⟩⟩
/-- what rmo says -/
theorem rmo_spec : ∀ f a n, rmo σ i f a n ≠ 4294967295 → ∃ t, rmo σ i f a n = n + t ∧ bkI σ a t = i ∧ (∀ s, s ≤ t → bkI σ a s ≠ 4294967295) ∧ (∀ s, s < t → bkI σ a s ≠ i) := by
  intro f
  induction f with
  | zero => intro a n h; exact absurd rfl h
  | succ f ih =>
    intro a n h
    rw [rmo] at h ⊢
    by_cases g : a = 4294967295
    · rw [if_pos g] at h; exact absurd rfl h
    · rw [if_neg g] at h ⊢
      by_cases g2 : a = i
      · rw [if_pos g2]
        exact ⟨0, rfl, g2, fun s hs => by rw [show s = 0 by omega]; exact g, fun s hs => by omega⟩
      · rw [if_neg g2] at h ⊢
        by_cases g3 : 10 < n
        · rw [if_pos g3] at h; exact absurd rfl h
        · rw [if_neg g3] at h ⊢
          obtain ⟨t, t1, t2, t3, t4⟩ := ih _ _ h
          have sh : ∀ s, bkI σ a (s + 1) = bkI σ (blk σ a) s := fun s => by
            rw [Nat.add_comm, bkI_add]
            rfl
          refine ⟨t + 1, by omega, by rw [sh]; exact t2, fun s hs => ?_, fun s hs => ?_⟩
          · cases s with
            | zero => exact g
            | succ s => rw [sh]; exact t3 s (by omega)
          · cases s with
            | zero => exact g2
            | succ s => rw [sh]; exact t4 s (by omega)
theorem rmo_some : ∀ f a n, (∃ t, t < f ∧ n + t ≤ 11 ∧ bkI σ a t = i ∧ ∀ s, s ≤ t → bkI σ a s ≠ 4294967295) → i ≠ 4294967295 → rmo σ i f a n ≠ 4294967295 ∨ 4294967295 ≤ n + 11 := by
  intro f
  induction f with
  | zero => intro a n ⟨t, h, _⟩; omega
  | succ f ih =>
    intro a n ⟨t, h1, h2, h3, h4⟩ hi
    rw [rmo, if_neg (show ¬ a = 4294967295 from h4 0 (Nat.zero_le _))]
    by_cases g2 : a = i
    · rw [if_pos g2]
      by_cases z : n = 4294967295
      · exact Or.inr (by omega)
      · exact Or.inl z
    · rw [if_neg g2]
      cases t with
      | zero => exact absurd h3 g2
      | succ t =>
        have sh : ∀ s, bkI σ a (s + 1) = bkI σ (blk σ a) s := fun s => by
          rw [Nat.add_comm, bkI_add]
          rfl
        rw [if_neg (by omega)]
        rcases ih (blk σ a) (n + 1) ⟨t, by omega, by omega, by rw [← sh]; exact h3, fun s hs => by rw [← sh]; exact h4 (s + 1) (by omega)⟩ hi with h | h
        · exact Or.inl h
        · exact Or.inr (by omega)
/-- a ring: its lowest, its size, who is in it -/
theorem ring_spec (hW : WF σ) (hX : XF σ) (h : rgdN σ ≠ 4294967295) : ∃ n, rng σ (rgdN σ) = n ∧ 2 ≤ n ∧ n ≤ 10 ∧ rgdN σ < σ 0 ∧ bkI σ (rgdN σ) n = rgdN σ ∧ (∀ s, bkI σ (rgdN σ) s < σ 0 ∧ blk σ (bkI σ (rgdN σ) s) ≠ 4294967295) ∧ (∀ s, 1 ≤ s → s < n → rgdN σ < bkI σ (rgdN σ) s) := by
  have h0 := hW.1
  have low : ∀ n i, rgd σ n i ≠ 4294967295 → i + n ≤ σ 0 → rng σ (rgd σ n i) ≠ 4294967295 ∧ rgd σ n i < i + n ∧ ∀ j, i ≤ j → j < rgd σ n i → rng σ j = 4294967295 := by
    intro n
    induction n with
    | zero => intro i h _; exact absurd rfl h
    | succ n ih =>
      intro i h hi
      rw [rgd] at h ⊢
      by_cases g : rng σ i = 4294967295
      · rw [if_pos g] at h ⊢
        obtain ⟨a, b, c⟩ := ih (i + 1) h (by omega)
        refine ⟨a, by omega, fun j h1 h2 => ?_⟩
        rcases Nat.lt_or_eq_of_le h1 with z | z
        · exact c j z h2
        · rw [← z]; exact g
      · rw [if_neg g]
        exact ⟨g, by omega, fun j h1 h2 => by omega⟩
  obtain ⟨a1, a2, a3⟩ := low (σ 0) 0 h (by omega)
  have hr : rgd σ (σ 0) 0 = rgdN σ := rfl
  rw [hr, Nat.zero_add] at a2
  rw [hr] at a1 a3
  generalize rgdN σ = r at h a1 a2 a3
  obtain ⟨t, t1, t2, t3, t4⟩ := rmo_spec (σ := σ) (i := r) 5000 (blk σ r) 1 a1
  have hin := rmo_in (σ := σ) (i := r) 5000 (blk σ r) 1 (by omega)
  have sh : ∀ s, bkI σ r (s + 1) = bkI σ (blk σ r) s := fun s => by
    rw [Nat.add_comm, bkI_add]
    rfl
  have hn : rng σ r = 1 + t := t1
  have per : bkI σ r (1 + t) = r := by rw [Nat.add_comm, sh]; exact t2
  have hlt : ∀ s, s ≤ t → bkI σ (blk σ r) s < σ 0 := by
    intro s hs
    have z := t3 s hs
    cases s with
    | zero =>
      rcases blk_in (i := r) hW with e | e
      · exact absurd e z
      · exact e
    | succ s =>
      rcases blk_in (i := bkI σ (blk σ r) s) hW with e | e
      · exact absurd e z
      · exact e
  have inn : ∀ s, s ≤ 1 + t → bkI σ r s < σ 0 := by
    intro s hs
    cases s with
    | zero => exact a2
    | succ s => rw [sh]; exact hlt s (by omega)
  have mod : ∀ s, bkI σ r s = bkI σ r (s % (1 + t)) := by
    intro s
    induction s using Nat.strongRecOn with
    | _ s ih =>
      by_cases g : s < 1 + t
      · rw [Nat.mod_eq_of_lt g]
      · have e : bkI σ r s = bkI σ r (s - (1 + t)) := by
          have := bkI_add (σ := σ) (i := r) (1 + t) (s - (1 + t))
          rw [per, show 1 + t + (s - (1 + t)) = s by omega] at this
          exact this
        rw [e, ih (s - (1 + t)) (by omega), Nat.mod_eq_sub_mod (a := s) (by omega)]
  have all : ∀ s, bkI σ r s < σ 0 ∧ blk σ (bkI σ r s) ≠ 4294967295 := by
    intro s
    have hm : s % (1 + t) < 1 + t := Nat.mod_lt _ (by omega)
    refine ⟨by rw [mod s]; exact inn _ (by omega), ?_⟩
    have e : blk σ (bkI σ r s) = bkI σ r (s + 1) := rfl
    have hm2 : (s + 1) % (1 + t) < 1 + t := Nat.mod_lt _ (by omega)
    rw [e, mod (s + 1)]
    have := inn _ (Nat.le_of_lt hm2)
    omega
  have one : 1 ≤ t := by
    by_cases z : t = 0
    · rw [z] at t2
      exact absurd t2 (blk_ne hW hX a2)
    · omega
  have bound : 1 + t ≤ 10 := by
    by_cases z : 1 + t ≤ 10
    · exact z
    · -- eleven in a row below ten would meet twice
      have n11 := no11 (σ := σ) (i := r) (fun m hm => by have := (all m).1; omega) (fun m h1 h2 => by
        obtain ⟨q, rfl⟩ : ∃ q, m = q + 1 := ⟨m - 1, by omega⟩
        rw [sh]
        exact t4 q (by omega))
      rw [hn] at a1
      have : 1 + t = 11 := by
        rcases hin with e | e
        · exact absurd (t1.symm.trans e) a1
        · omega
      rw [this] at per
      exact absurd per n11
  refine ⟨1 + t, hn, by omega, bound, a2, per, all, fun s h1 h2 => ?_⟩
  have ne : bkI σ r s ≠ r := by
    obtain ⟨q, rfl⟩ : ∃ q, s = q + 1 := ⟨s - 1, by omega⟩
    rw [sh]
    exact t4 q (by omega)
  by_cases z : bkI σ r s < r
  · exfalso
    have e3 := a3 _ (Nat.zero_le _) z
    have e4 : ∀ q, bkI σ (bkI σ r s) q = bkI σ r (s + q) := fun q => (bkI_add s q).symm
    have := rmo_some (σ := σ) (i := bkI σ r s) 5000 (blk σ (bkI σ r s)) 1 ⟨t, by omega, by omega, ?_, fun q hq => ?_⟩ (by have := (all s).1; omega)
    · rcases this with g | g
      · exact g e3
      · omega
    · have e5 : bkI σ (blk σ (bkI σ r s)) t = bkI σ (bkI σ r s) (t + 1) := by
        rw [Nat.add_comm, bkI_add]
        rfl
      rw [e5, e4, mod (s + (t + 1)), mod s, show s + (t + 1) = s + (1 + t) by omega, Nat.add_mod_right]
    · have e5 : bkI σ (blk σ (bkI σ r s)) q = bkI σ (bkI σ r s) (q + 1) := by
        rw [Nat.add_comm, bkI_add]
        rfl
      rw [e5, e4]
      have := (all (s + (q + 1))).1
      omega
  · omega
/-- a ring, with another rule than 2, as a set that waits -/
theorem ring_RS (hW : WF σ) (hX : XF σ) (h : rgdN σ ≠ 4294967295) (h2 : σ 2 ≠ 2) : RS σ (fun i => ∃ s, i = bkI σ (rgdN σ) s) := by
  obtain ⟨n, _, _, _, _, _, a, _⟩ := ring_spec hW hX h
  refine ⟨h2, ?_⟩
  rintro i ⟨s, rfl⟩
  exact ⟨(a s).1, (a s).2, s + 1, rfl⟩
theorem RS_uw {R : Nat → Prop} (h : RS σ R) (hi : R i) : σ (40 + 18 * i) ≤ 1 := wants_1 (blk_wn (h.2 i hi).2.1).1
theorem ring_none (hW : WF σ) : rgdN σ = 4294967295 ∨ rgdN σ < σ 0 := by
  rcases rgd_in (σ := σ) (σ 0) 0 with h | h
  · exact Or.inl h
  · exact Or.inr (by have := h.1; unfold rgdN; omega)
/-- behind ticks there is a ring still -/
theorem ring_stay (hW : WF σ) (hX : XF σ) (h : rgdN σ ≠ 4294967295) (h2 : σ 2 ≠ 2) (n : Nat) : rgdN (ticksN σ n) ≠ 4294967295 ∧ blk (ticksN σ n) (rgdN σ) ≠ 4294967295 := by
  have hR := ring_RS hW hX h h2
  obtain ⟨m, m1, m2, m3, m4, m5, m6, m7⟩ := ring_spec hW hX h
  obtain ⟨a, b⟩ := RS_ticks n σ hW hR
  have W2 := ticks_WF n σ hW
  have e : ∀ s, bkI (ticksN σ n) (rgdN σ) s = bkI σ (rgdN σ) s := by
    intro s
    induction s with
    | zero => rfl
    | succ s ih =>
      rw [bkI, ih, (b _ ⟨s, rfl⟩).1]
      rfl
  have h0 := W2.1
  refine ⟨?_, fun z => (m6 0).2 ((b _ ⟨0, rfl⟩).1.symm.trans z)⟩
  have some : rng (ticksN σ n) (rgdN σ) ≠ 4294967295 := by
    have sh : ∀ q, bkI (ticksN σ n) (blk (ticksN σ n) (rgdN σ)) q = bkI (ticksN σ n) (rgdN σ) (q + 1) := fun q => by
      rw [Nat.add_comm, bkI_add]
      rfl
    rcases rmo_some (σ := ticksN σ n) (i := rgdN σ) 5000 (blk (ticksN σ n) (rgdN σ)) 1 ⟨m - 1, by omega, by omega, by rw [sh, e, show m - 1 + 1 = m by omega]; exact m5, fun q hq => by rw [sh, e]; have := (m6 (q + 1)).1; have := hW.1; omega⟩ (by have := hW.1; omega) with g | g
    · exact g
    · omega
  have find : ∀ k i, i + k ≤ ticksN σ n 0 → i ≤ rgdN σ → rgdN σ < i + k → rgd (ticksN σ n) k i ≠ 4294967295 := by
    intro k
    induction k with
    | zero => intro i _ _ h; omega
    | succ k ih =>
      intro i h1 h3 h4
      rw [rgd]
      by_cases g : rng (ticksN σ n) i = 4294967295
      · rw [if_pos g]
        rcases Nat.lt_or_eq_of_le h3 with z | z
        · exact ih (i + 1) (by omega) z (by omega)
        · rw [← z] at some; exact absurd g some
      · rw [if_neg g]; omega
  exact find _ 0 (by omega) (Nat.zero_le _) (by rw [ticks_0]; omega)
/-- none of a ring is ever gone; not all come through -/
theorem ring_gone (hW : WF σ) (hX : XF σ) (h : rgdN σ ≠ 4294967295) (h2 : σ 2 ≠ 2) (s n : Nat) : ticksN σ n (40 + 18 * bkI σ (rgdN σ) s) ≤ 1 := by
  obtain ⟨a, b⟩ := RS_ticks n σ hW (ring_RS hW hX h h2)
  exact RS_uw a ⟨s, rfl⟩
end RGX
