/-! PURE PART: what was told last -/
section
variable {F : Nat}
theorem s_ruleAt : Sp_ruleAt F RR := by
  intro x σ1 σ2 p0 hR h0
  obtain ⟨-, -, -, -, -, -, -, ⟨⟨⟨r1, r1'⟩, r2, r3, r4, -⟩, -⟩, -⟩ := id hR
  refine sp1 ?_
  have hz : RR x σ1 (sF σ2 0 0) := RR_fr hR WFr.rf (MFr.sF rfl MFr.rf)
  have key : f_Told_at_steps F σ1 (p0 - 1) = (if 0 ≤ p0 - 1 ∧ p0 - 1 < gF σ1 577 then some (gA σ1 10 (p0 - 1).toNat, σ1) else some (-1, σ1)) ∨ p0 < -100 := by
    by_cases c0 : p0 < -100
    · exact Or.inr c0
    refine Or.inl ?_
    unfold f_Told_at_steps
    by_cases c : 0 ≤ p0 - 1 ∧ p0 - 1 < gF σ1 577
    · rw [if_pos c, gd_t (by omega), if_neg (by omega), gd_t (by omega), if_neg (by omega), gd_t (by omega), if_neg (by omega), gd_t (by omega)]
    · rw [if_neg c, gd_t (by omega)]
      by_cases c1 : p0 - 1 < 0
      · rw [if_pos c1]
      · rw [if_neg c1, gd_t (by omega), if_pos (by omega)]
  unfold f_W_ruleAt f_M_ruleAt
  rcases key with key | key
  · rw [key]
    by_cases c : 0 ≤ p0 - 1 ∧ p0 - 1 < gF σ1 577
    · have e := r4 (p0 - 1).toNat (by omega)
      rw [show (p0 - 1).toNat + 1 = p0.toNat by omega] at e
      rw [if_pos c]
      repeat' (first | (exfalso; omega) | (refine ev_bs ?_; try simp (disch := decide) only [gF_eq, gF_ne, gF_sA, gA_sF, gA_ne, gA_eq, Int.reduceToNat]) | refine ev_bv ?_ | refine ev_g (by omega) ?_ | refine ev_isIn (by omega) (fun hc => ?_) (fun hc => ?_) | (refine ev_s ?_; try dsimp only; try simp (disch := decide) only [gF_eq, gF_ne, gF_sA, gA_sF, gA_ne, gA_eq, Int.reduceToNat]) | refine ev_if (fun hc => ?_) (fun hc => ?_))
      exact ⟨e, hz⟩
    · rw [if_neg c]
      repeat' (first | (exfalso; omega) | (refine ev_bs ?_; try simp (disch := decide) only [gF_eq, gF_ne, gF_sA, gA_sF, gA_ne, gA_eq, Int.reduceToNat]) | refine ev_bv ?_ | refine ev_g (by omega) ?_ | refine ev_isIn (by omega) (fun hc => ?_) (fun hc => ?_) | (refine ev_s ?_; try dsimp only; try simp (disch := decide) only [gF_eq, gF_ne, gF_sA, gA_sF, gA_ne, gA_eq, Int.reduceToNat]) | refine ev_if (fun hc => ?_) (fun hc => ?_))
      all_goals exact ⟨rfl, hz⟩
  · repeat' (first | (exfalso; omega) | (refine ev_bs ?_; try simp (disch := decide) only [gF_eq, gF_ne, gF_sA, gA_sF, gA_ne, gA_eq, Int.reduceToNat]) | refine ev_bv ?_ | refine ev_g (by omega) ?_ | refine ev_isIn (by omega) (fun hc => ?_) (fun hc => ?_) | (refine ev_s ?_; try dsimp only; try simp (disch := decide) only [gF_eq, gF_ne, gF_sA, gA_sF, gA_ne, gA_eq, Int.reduceToNat]) | refine ev_if (fun hc => ?_) (fun hc => ?_))
    all_goals exact ⟨rfl, hz⟩
theorem s_strength : Sp_strength F RR := by
  intro x σ1 σ2 p0 hR h0
  obtain ⟨-, -, -, -, -, -, -, ⟨⟨-, -, -, -, -, ⟨r5, r5a, r5b⟩, r6⟩, -⟩, -⟩ := id hR
  refine sp1 ?_
  have hz : RR x σ1 (sF σ2 0 0) := RR_fr hR WFr.rf (MFr.sF rfl MFr.rf)
  have key : f_Told_at_strengths F σ1 p0 = if 0 ≤ p0 ∧ p0 < gF σ1 705 then some (gA σ1 12 p0.toNat, σ1) else some (-1, σ1) := by
    unfold f_Told_at_strengths
    by_cases c : 0 ≤ p0 ∧ p0 < gF σ1 705
    · rw [if_pos c, gd_t (by omega), if_neg (by omega), gd_t (by omega), if_neg (by omega), gd_t (by omega), if_neg (by omega), gd_t (by omega)]
    · rw [if_neg c, gd_t (by omega)]
      by_cases c1 : p0 < 0
      · rw [if_pos c1]
      · rw [if_neg c1, gd_t (by omega), if_pos (by omega)]
  unfold f_W_strength f_M_strength
  rw [key]
  by_cases c : 0 ≤ p0 ∧ p0 < gF σ1 705
  · have e : gA σ1 12 p0.toNat = gA σ2 11 p0.toNat := r6 p0.toNat (by omega)
    rw [if_pos c]
    repeat' (first | (exfalso; omega) | (refine ev_bs ?_; try simp (disch := decide) only [gF_eq, gF_ne, gF_sA, gA_sF, gA_ne, gA_eq, Int.reduceToNat]) | refine ev_bv ?_ | refine ev_g (by omega) ?_ | refine ev_isIn (by omega) (fun hc => ?_) (fun hc => ?_) | (refine ev_s ?_; try dsimp only; try simp (disch := decide) only [gF_eq, gF_ne, gF_sA, gA_sF, gA_ne, gA_eq, Int.reduceToNat]) | refine ev_if (fun hc => ?_) (fun hc => ?_))
    exact ⟨e, hz⟩
  · rw [if_neg c]
    repeat' (first | (exfalso; omega) | (refine ev_bs ?_; try simp (disch := decide) only [gF_eq, gF_ne, gF_sA, gA_sF, gA_ne, gA_eq, Int.reduceToNat]) | refine ev_bv ?_ | refine ev_g (by omega) ?_ | refine ev_isIn (by omega) (fun hc => ?_) (fun hc => ?_) | (refine ev_s ?_; try dsimp only; try simp (disch := decide) only [gF_eq, gF_ne, gF_sA, gA_sF, gA_ne, gA_eq, Int.reduceToNat]) | refine ev_if (fun hc => ?_) (fun hc => ?_))
    all_goals exact ⟨rfl, hz⟩
theorem s_track : Sp_track F RR := by
  intro x σ1 σ2 p0 hR h0
  obtain ⟨-, -, -, -, -, -, -, ⟨-, ⟨r1, r2, r3⟩, -⟩, -⟩ := id hR
  refine sp1 ?_
  have hz : RR x σ1 (sF σ2 0 0) := RR_fr hR WFr.rf (MFr.sF rfl MFr.rf)
  have key : f_Told_at_tracked F σ1 p0 = if 0 ≤ p0 ∧ p0 < gF σ1 833 then some (gA σ1 14 p0.toNat, σ1) else some (-1, σ1) := by
    unfold f_Told_at_tracked
    by_cases c : 0 ≤ p0 ∧ p0 < gF σ1 833
    · rw [if_pos c, gd_t (by omega), if_neg (by omega), gd_t (by omega), if_neg (by omega), gd_t (by omega), if_neg (by omega), gd_t (by omega)]
    · rw [if_neg c, gd_t (by omega)]
      by_cases c1 : p0 < 0
      · rw [if_pos c1]
      · rw [if_neg c1, gd_t (by omega), if_pos (by omega)]
  unfold f_W_track f_M_track
  rw [key]
  by_cases c : 0 ≤ p0 ∧ p0 < gF σ1 833
  · have e : gA σ1 14 p0.toNat = gA σ2 13 p0.toNat := r3 (by omega) p0.toNat (by omega)
    rw [if_pos c]
    repeat' (first | (exfalso; omega) | (refine ev_bs ?_; try simp (disch := decide) only [gF_eq, gF_ne, gF_sA, gA_sF, gA_ne, gA_eq, Int.reduceToNat]) | refine ev_bv ?_ | refine ev_g (by omega) ?_ | refine ev_isIn (by omega) (fun hc => ?_) (fun hc => ?_) | (refine ev_s ?_; try dsimp only; try simp (disch := decide) only [gF_eq, gF_ne, gF_sA, gA_sF, gA_ne, gA_eq, Int.reduceToNat]) | refine ev_if (fun hc => ?_) (fun hc => ?_))
    exact ⟨e, hz⟩
  · rw [if_neg c]
    repeat' (first | (exfalso; omega) | (refine ev_bs ?_; try simp (disch := decide) only [gF_eq, gF_ne, gF_sA, gA_sF, gA_ne, gA_eq, Int.reduceToNat]) | refine ev_bv ?_ | refine ev_g (by omega) ?_ | refine ev_isIn (by omega) (fun hc => ?_) (fun hc => ?_) | (refine ev_s ?_; try dsimp only; try simp (disch := decide) only [gF_eq, gF_ne, gF_sA, gA_sF, gA_ne, gA_eq, Int.reduceToNat]) | refine ev_if (fun hc => ?_) (fun hc => ?_))
    all_goals exact ⟨rfl, hz⟩
theorem s_madeBy : Sp_madeBy F RR := by
  intro x σ1 σ2 p0 hR h0
  obtain ⟨-, -, -, -, -, -, -, ⟨-, -, r, -⟩, -⟩ := id hR
  refine sp1 ?_
  have hz : RR x σ1 (sF σ2 0 0) := RR_fr hR WFr.rf (MFr.sF rfl MFr.rf)
  have hs : gF σ1 1089 ≤ 3 ∧ 0 ≤ gF σ1 1089 ∧ (gF σ2 41 = gF σ1 1089 ∨ (gF σ2 41 = -1 ∧ gF σ1 1089 = 0)) := by rcases r with r | r <;> omega
  have ha : ∀ i : Nat, (i : Int) < gF σ1 1089 → gA σ1 18 i = gA σ2 16 i := fun i hi => by
    rcases r with r | r
    · omega
    · exact (r.2.2.2.2 i (by omega)).2
  have key : f_Told_at_makerNumber F σ1 p0 = if 0 ≤ p0 ∧ p0 < gF σ1 1089 then some (gA σ1 18 p0.toNat, σ1) else some (-1, σ1) := by
    unfold f_Told_at_makerNumber
    by_cases c : 0 ≤ p0 ∧ p0 < gF σ1 1089
    · rw [if_pos c, gd_t (by omega), if_neg (by omega), gd_t (by omega), if_neg (by omega), gd_t (by omega), if_neg (by omega), gd_t (by omega)]
    · rw [if_neg c, gd_t (by omega)]
      by_cases c1 : p0 < 0
      · rw [if_pos c1]
      · rw [if_neg c1, gd_t (by omega), if_pos (by omega)]
  unfold f_W_madeBy f_M_madeBy
  rw [key]
  by_cases c : 0 ≤ p0 ∧ p0 < gF σ1 1089
  · have e : gA σ1 18 p0.toNat = gA σ2 16 p0.toNat := ha p0.toNat (by omega)
    rw [if_pos c]
    repeat' (first | (exfalso; omega) | (refine ev_bs ?_; try simp (disch := decide) only [gF_eq, gF_ne, gF_sA, gA_sF, gA_ne, gA_eq, Int.reduceToNat]) | refine ev_bv ?_ | refine ev_g (by omega) ?_ | refine ev_isIn (by omega) (fun hc => ?_) (fun hc => ?_) | (refine ev_s ?_; try dsimp only; try simp (disch := decide) only [gF_eq, gF_ne, gF_sA, gA_sF, gA_ne, gA_eq, Int.reduceToNat]) | refine ev_if (fun hc => ?_) (fun hc => ?_))
    exact ⟨e, hz⟩
  · rw [if_neg c]
    repeat' (first | (exfalso; omega) | (refine ev_bs ?_; try simp (disch := decide) only [gF_eq, gF_ne, gF_sA, gA_sF, gA_ne, gA_eq, Int.reduceToNat]) | refine ev_bv ?_ | refine ev_g (by omega) ?_ | refine ev_isIn (by omega) (fun hc => ?_) (fun hc => ?_) | (refine ev_s ?_; try dsimp only; try simp (disch := decide) only [gF_eq, gF_ne, gF_sA, gA_sF, gA_ne, gA_eq, Int.reduceToNat]) | refine ev_if (fun hc => ?_) (fun hc => ?_))
    all_goals exact ⟨rfl, hz⟩
theorem s_number : Sp_number F RR := by
  intro x σ1 σ2 p0 hR h0
  obtain ⟨-, -, -, -, -, -, -, ⟨-, -, -, -, r, -⟩, -⟩ := id hR
  refine sp1 ?_
  have hz : RR x σ1 (sF σ2 0 0) := RR_fr hR WFr.rf (MFr.sF rfl MFr.rf)
  have hs : gF σ1 1345 ≤ 10 ∧ 0 ≤ gF σ1 1345 ∧ (gF σ2 47 = gF σ1 1345 ∨ (gF σ2 47 = -1 ∧ gF σ1 1345 = 0)) := by rcases r with r | r <;> omega
  have ha : ∀ i : Nat, (i : Int) < gF σ1 1345 → gA σ1 22 i = gA σ2 17 i := fun i hi => by
    rcases r with r | r
    · omega
    · exact (r.2.2 i (by omega)).1
  have key : f_Told_at_nulls F σ1 p0 = if 0 ≤ p0 ∧ p0 < gF σ1 1345 then some (gA σ1 22 p0.toNat, σ1) else some (-1, σ1) := by
    unfold f_Told_at_nulls
    by_cases c : 0 ≤ p0 ∧ p0 < gF σ1 1345
    · rw [if_pos c, gd_t (by omega), if_neg (by omega), gd_t (by omega), if_neg (by omega), gd_t (by omega), if_neg (by omega), gd_t (by omega)]
    · rw [if_neg c, gd_t (by omega)]
      by_cases c1 : p0 < 0
      · rw [if_pos c1]
      · rw [if_neg c1, gd_t (by omega), if_pos (by omega)]
  unfold f_W_number f_M_number
  rw [key]
  by_cases c : 0 ≤ p0 ∧ p0 < gF σ1 1345
  · have e : gA σ1 22 p0.toNat = gA σ2 17 p0.toNat := ha p0.toNat (by omega)
    rw [if_pos c]
    repeat' (first | (exfalso; omega) | (refine ev_bs ?_; try simp (disch := decide) only [gF_eq, gF_ne, gF_sA, gA_sF, gA_ne, gA_eq, Int.reduceToNat]) | refine ev_bv ?_ | refine ev_g (by omega) ?_ | refine ev_isIn (by omega) (fun hc => ?_) (fun hc => ?_) | (refine ev_s ?_; try dsimp only; try simp (disch := decide) only [gF_eq, gF_ne, gF_sA, gA_sF, gA_ne, gA_eq, Int.reduceToNat]) | refine ev_if (fun hc => ?_) (fun hc => ?_))
    exact ⟨e, hz⟩
  · rw [if_neg c]
    repeat' (first | (exfalso; omega) | (refine ev_bs ?_; try simp (disch := decide) only [gF_eq, gF_ne, gF_sA, gA_sF, gA_ne, gA_eq, Int.reduceToNat]) | refine ev_bv ?_ | refine ev_g (by omega) ?_ | refine ev_isIn (by omega) (fun hc => ?_) (fun hc => ?_) | (refine ev_s ?_; try dsimp only; try simp (disch := decide) only [gF_eq, gF_ne, gF_sA, gA_sF, gA_ne, gA_eq, Int.reduceToNat]) | refine ev_if (fun hc => ?_) (fun hc => ?_))
    all_goals exact ⟨rfl, hz⟩
theorem s_fixAt : Sp_fixAt F RR := by
  intro x σ1 σ2 p0 hR h0
  obtain ⟨-, -, -, -, -, -, -, ⟨-, -, -, -, -, r⟩, -⟩ := id hR
  refine sp1 ?_
  have hz : RR x σ1 (sF σ2 0 0) := RR_fr hR WFr.rf (MFr.sF rfl MFr.rf)
  have hs : gF σ1 5697 ≤ 8 ∧ 0 ≤ gF σ1 5697 ∧ (gF σ2 56 = gF σ1 5697 ∨ (gF σ2 56 = -1 ∧ gF σ1 5697 = 0)) := by rcases r with r | r <;> omega
  have ha : ∀ i : Nat, (i : Int) < gF σ1 5697 → gA σ1 90 i = gA σ2 21 i := fun i hi => by
    rcases r with r | r
    · omega
    · exact r.2.2 i (by omega)
  have key : f_Told_at_told F σ1 p0 = if 0 ≤ p0 ∧ p0 < gF σ1 5697 then some (gA σ1 90 p0.toNat, σ1) else some (-1, σ1) := by
    unfold f_Told_at_told
    by_cases c : 0 ≤ p0 ∧ p0 < gF σ1 5697
    · rw [if_pos c, gd_t (by omega), if_neg (by omega), gd_t (by omega), if_neg (by omega), gd_t (by omega), if_neg (by omega), gd_t (by omega)]
    · rw [if_neg c, gd_t (by omega)]
      by_cases c1 : p0 < 0
      · rw [if_pos c1]
      · rw [if_neg c1, gd_t (by omega), if_pos (by omega)]
  unfold f_W_fixAt f_M_fixAt
  rw [key]
  by_cases c : 0 ≤ p0 ∧ p0 < gF σ1 5697
  · have e : gA σ1 90 p0.toNat = gA σ2 21 p0.toNat := ha p0.toNat (by omega)
    rw [if_pos c]
    repeat' (first | (exfalso; omega) | (refine ev_bs ?_; try simp (disch := decide) only [gF_eq, gF_ne, gF_sA, gA_sF, gA_ne, gA_eq, Int.reduceToNat]) | refine ev_bv ?_ | refine ev_g (by omega) ?_ | refine ev_isIn (by omega) (fun hc => ?_) (fun hc => ?_) | (refine ev_s ?_; try dsimp only; try simp (disch := decide) only [gF_eq, gF_ne, gF_sA, gA_sF, gA_ne, gA_eq, Int.reduceToNat]) | refine ev_if (fun hc => ?_) (fun hc => ?_))
    exact ⟨e, hz⟩
  · rw [if_neg c]
    repeat' (first | (exfalso; omega) | (refine ev_bs ?_; try simp (disch := decide) only [gF_eq, gF_ne, gF_sA, gA_sF, gA_ne, gA_eq, Int.reduceToNat]) | refine ev_bv ?_ | refine ev_g (by omega) ?_ | refine ev_isIn (by omega) (fun hc => ?_) (fun hc => ?_) | (refine ev_s ?_; try dsimp only; try simp (disch := decide) only [gF_eq, gF_ne, gF_sA, gA_sF, gA_ne, gA_eq, Int.reduceToNat]) | refine ev_if (fun hc => ?_) (fun hc => ?_))
    all_goals exact ⟨rfl, hz⟩
theorem s_made : Sp_made F RR := by
  intro x σ1 σ2 p0 hR h0
  obtain ⟨-, -, -, -, -, -, -, ⟨-, -, r, -⟩, -⟩ := id hR
  refine sp1 ?_
  have hz : RR x σ1 (sF σ2 0 0) := RR_fr hR WFr.rf (MFr.sF rfl MFr.rf)
  have hs : gF σ1 961 ≤ 3 ∧ 0 ≤ gF σ1 961 ∧ ((gF σ2 41 = gF σ1 961 ∧ gF σ1 14 = gF σ2 42) ∨ (gF σ2 41 = -1 ∧ gF σ1 961 = 0 ∧ gF σ1 14 = -1)) := by rcases r with r | r <;> omega
  have ha : ∀ i : Nat, (i : Int) < gF σ1 961 → gA σ1 16 i = gA σ2 15 i := fun i hi => by
    rcases r with r | r
    · omega
    · exact (r.2.2.2.2 i (by omega)).1
  have key : f_Told_at_maker F σ1 p0 = if 0 ≤ p0 ∧ p0 < gF σ1 961 then some (gA σ1 16 p0.toNat, σ1) else some (-1, σ1) := by
    unfold f_Told_at_maker
    by_cases c : 0 ≤ p0 ∧ p0 < gF σ1 961
    · rw [if_pos c, gd_t (by omega), if_neg (by omega), gd_t (by omega), if_neg (by omega), gd_t (by omega), if_neg (by omega), gd_t (by omega)]
    · rw [if_neg c, gd_t (by omega)]
      by_cases c1 : p0 < 0
      · rw [if_pos c1]
      · rw [if_neg c1, gd_t (by omega), if_pos (by omega)]
  unfold f_W_made f_M_made
  rw [key]
  by_cases c : 0 ≤ p0 ∧ p0 < gF σ1 961
  · have e : gA σ1 16 p0.toNat = gA σ2 15 p0.toNat := ha p0.toNat (by omega)
    rw [if_pos c]
    repeat' (first | (exfalso; omega) | (refine ev_bs ?_; try simp (disch := decide) only [gF_eq, gF_ne, gF_sA, gA_sF, gA_ne, gA_eq, Int.reduceToNat]) | refine ev_bv ?_ | refine ev_g (by omega) ?_ | refine ev_isIn (by omega) (fun hc => ?_) (fun hc => ?_) | (refine ev_s ?_; try dsimp only; try simp (disch := decide) only [gF_eq, gF_ne, gF_sA, gA_sF, gA_ne, gA_eq, Int.reduceToNat]) | refine ev_if (fun hc => ?_) (fun hc => ?_))
    exact ⟨e, hz⟩
  · rw [if_neg c]
    repeat' (first | (exfalso; omega) | (refine ev_bs ?_; try simp (disch := decide) only [gF_eq, gF_ne, gF_sA, gA_sF, gA_ne, gA_eq, Int.reduceToNat]) | refine ev_bv ?_ | refine ev_g (by omega) ?_ | refine ev_isIn (by omega) (fun hc => ?_) (fun hc => ?_) | (refine ev_s ?_; try dsimp only; try simp (disch := decide) only [gF_eq, gF_ne, gF_sA, gA_sF, gA_ne, gA_eq, Int.reduceToNat]) | refine ev_if (fun hc => ?_) (fun hc => ?_))
    all_goals exact ⟨by omega, hz⟩
theorem s_liar : Sp_liar F RR := by
  intro x σ1 σ2 p0 hR h0
  obtain ⟨-, -, -, -, -, -, -, ⟨-, -, -, r, -⟩, -⟩ := id hR
  refine sp1 ?_
  have hz : RR x σ1 (sF σ2 0 0) := RR_fr hR WFr.rf (MFr.sF rfl MFr.rf)
  have hs : gF σ1 1217 ≤ 2 ∧ 0 ≤ gF σ1 1217 ∧ ((gF σ2 43 = gF σ1 1217 ∧ gF σ1 16 = gF σ2 44 ∧ 0 ≤ gF σ2 45 ∧ gF σ2 45 ≤ 99 ∧ (1 ≤ gF σ2 43 → gA σ1 20 0 = gF σ2 45 / 10) ∧ (2 ≤ gF σ2 43 → gA σ1 20 1 = gF σ2 45 % 10)) ∨ (gF σ2 43 = -1 ∧ gF σ1 1217 = 0 ∧ gF σ1 16 = -1)) := by rcases r with r | r <;> omega
  have key : f_Told_at_lying F σ1 p0 = if 0 ≤ p0 ∧ p0 < gF σ1 1217 then some (gA σ1 20 p0.toNat, σ1) else some (-1, σ1) := by
    unfold f_Told_at_lying
    by_cases c : 0 ≤ p0 ∧ p0 < gF σ1 1217
    · rw [if_pos c, gd_t (by omega), if_neg (by omega), gd_t (by omega), if_neg (by omega), gd_t (by omega), if_neg (by omega), gd_t (by omega)]
    · rw [if_neg c, gd_t (by omega)]
      by_cases c1 : p0 < 0
      · rw [if_pos c1]
      · rw [if_neg c1, gd_t (by omega), if_pos (by omega)]
  unfold f_W_liar f_M_liar
  rw [key]
  by_cases c : 0 ≤ p0 ∧ p0 < gF σ1 1217
  · rw [if_pos c]
    have ht : Int.tdiv (gF σ2 45) 10 = gF σ2 45 / 10 := Int.tdiv_eq_ediv_of_nonneg (by omega)
    have ht2 : Int.tmod (gF σ2 45) 10 = gF σ2 45 % 10 := tmE (by omega)
    by_cases c0 : p0 = 0
    · repeat' (first | (exfalso; omega) | (refine ev_bs ?_; try simp (disch := decide) only [gF_eq, gF_ne, gF_sA, gA_sF, gA_ne, gA_eq, Int.reduceToNat]) | refine ev_bv ?_ | refine ev_g (by omega) ?_ | refine ev_isIn (by omega) (fun hc => ?_) (fun hc => ?_) | (refine ev_s ?_; try dsimp only; try simp (disch := decide) only [gF_eq, gF_ne, gF_sA, gA_sF, gA_ne, gA_eq, Int.reduceToNat]) | refine ev_if (fun hc => ?_) (fun hc => ?_))
      exact ⟨by rw [ht, show p0.toNat = 0 by omega]; omega, hz⟩
    · have c1 : p0 = 1 := by omega
      repeat' (first | (exfalso; omega) | (refine ev_bs ?_; try simp (disch := decide) only [gF_eq, gF_ne, gF_sA, gA_sF, gA_ne, gA_eq, Int.reduceToNat]) | refine ev_bv ?_ | refine ev_g (by omega) ?_ | refine ev_isIn (by omega) (fun hc => ?_) (fun hc => ?_) | (refine ev_s ?_; try dsimp only; try simp (disch := decide) only [gF_eq, gF_ne, gF_sA, gA_sF, gA_ne, gA_eq, Int.reduceToNat]) | refine ev_if (fun hc => ?_) (fun hc => ?_))
      exact ⟨by rw [ht2, show p0.toNat = 1 by omega]; omega, hz⟩
  · rw [if_neg c]
    repeat' (first | (exfalso; omega) | (refine ev_bs ?_; try simp (disch := decide) only [gF_eq, gF_ne, gF_sA, gA_sF, gA_ne, gA_eq, Int.reduceToNat]) | refine ev_bv ?_ | refine ev_g (by omega) ?_ | refine ev_isIn (by omega) (fun hc => ?_) (fun hc => ?_) | (refine ev_s ?_; try dsimp only; try simp (disch := decide) only [gF_eq, gF_ne, gF_sA, gA_sF, gA_ne, gA_eq, Int.reduceToNat]) | refine ev_if (fun hc => ?_) (fun hc => ?_))
    all_goals exact ⟨by omega, hz⟩
end
