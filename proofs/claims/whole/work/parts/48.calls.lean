/-! PURE PART: moment, wave, hearer, sender, what was told -/
theorem ne_thr {x : Int} (h : rng x) : x ≠ THR := by
  unfold THR
  have := h.1
  have := h.2
  omega
theorem spx {x : Bool} {F : Nat} {f g : Option (Int × St)} (h : Ev f fun r1 s1 => Ev g fun r2 s2 => (r1 = THR ∨ rng r1) ∧ rng r2 ∧ gF s2 0 = (if r1 = THR then 1 else 0) ∧ (r1 ≠ THR → r1 = r2) ∧ RR x s1 s2) : ∃ (r1 r2 : Int) (σ1' σ2' σ2t : St), f = some (r1, σ1') ∧ (r1 = THR ∨ rng r1) ∧ g = some (r2, σ2') ∧ rng r2 ∧ f_M_thrown F σ2' = some (if r1 = THR then 1 else 0, σ2t) ∧ (r1 ≠ THR → r1 = r2) ∧ RR x σ1' σ2t := by
  obtain ⟨r, s, e, r2, s2, e2, h1, h2, h3, h4, h5⟩ := h
  exact ⟨r, r2, s, s2, s2, e, h1, e2, h2, by unfold f_M_thrown; rw [h3], h4, h5⟩
section
variable {F : Nat}
theorem s_wave : Sp_wave F RR := by
  intro x σ1 σ2 p0 p1 hR h0 h1
  obtain ⟨hI, hW, hV⟩ := RR_view hR
  have g1 := hW.1.1
  have v0 := hV.1 0
  have i0 := hI.1
  refine sp1 ?_
  have hz : RR x σ1 (sF σ2 0 0) := RR_fr hR WFr.rf (MFr.sF rfl MFr.rf)
  have hV0 := MV_0 (v := 0) hV
  unfold f_W_wave f_M_wave
  by_cases c : (0 ≤ p0 ∧ p0 < svw σ2 0) ∧ 0 ≤ p1 ∧ p1 ≤ 99
  · repeat' (first | (exfalso; omega) | (refine ev_bs ?_; try simp (disch := decide) only [gF_eq, gF_ne, gF_sA, gA_sF, gA_ne, gA_eq, Int.reduceToNat]) | refine ev_bv ?_ | refine ev_g (by omega) ?_ | refine ev_has' hW.1.1 (by omega) (fun hc => ?_) (fun hc => ?_) | refine ev_isWay' (hV0.1 0) (by omega) (fun hc => ?_) (fun hc => ?_) | refine ev_isIn (by omega) (fun hc => ?_) (fun hc => ?_) | refine ev_be (W_waveAt hI hW (by omega) (by omega)) ?_ | refine ev_be (M_waveOf hI hV0 (by omega) (by omega)) ?_ | (refine ev_s ?_; try dsimp only; try simp (disch := decide) only [gF_eq, gF_ne, gF_sA, gA_sF, gA_ne, gA_eq, Int.reduceToNat]) | refine ev_if (fun hc => ?_) (fun hc => ?_))
    all_goals exact ⟨rfl, hz⟩
  · repeat' (first | (exfalso; omega) | (refine ev_bs ?_; try simp (disch := decide) only [gF_eq, gF_ne, gF_sA, gA_sF, gA_ne, gA_eq, Int.reduceToNat]) | refine ev_bv ?_ | refine ev_g (by omega) ?_ | refine ev_has' hW.1.1 (by omega) (fun hc => ?_) (fun hc => ?_) | refine ev_isWay' (hV0.1 0) (by omega) (fun hc => ?_) (fun hc => ?_) | refine ev_isIn (by omega) (fun hc => ?_) (fun hc => ?_) | (refine ev_s ?_; try dsimp only; try simp (disch := decide) only [gF_eq, gF_ne, gF_sA, gA_sF, gA_ne, gA_eq, Int.reduceToNat]) | refine ev_if (fun hc => ?_) (fun hc => ?_))
    all_goals exact ⟨rfl, hz⟩
theorem s_moment : Sp_moment F RR := by
  intro x σ1 σ2 p0 hR h0
  refine sp1 ?_
  have hz : RR x σ1 (sF σ2 0 0) := RR_fr hR WFr.rf (MFr.sF rfl MFr.rf)
  unfold f_W_moment f_M_moment
  repeat' (first | (exfalso; omega) | (refine ev_bs ?_; try simp (disch := decide) only [gF_eq, gF_ne, gF_sA, gA_sF, gA_ne, gA_eq, Int.reduceToNat]) | refine ev_bv ?_ | refine ev_g (by omega) ?_ | refine ev_isIn (by omega) (fun hc => ?_) (fun hc => ?_) | (refine ev_s ?_; try dsimp only; try simp (disch := decide) only [gF_eq, gF_ne, gF_sA, gA_sF, gA_ne, gA_eq, Int.reduceToNat]) | refine ev_if (fun hc => ?_) (fun hc => ?_))
  all_goals first | exact ⟨rfl, hz⟩ | refine ⟨rfl, ?_⟩
  obtain ⟨hT, hFa, ⟨⟨c0, l⟩, c1, c2, c3, c4, c5, c6, c7, c8, c9, d1⟩, hM, hD, hI0, hI1, hTo, hRe⟩ := id hR
  have e : ∀ i, i ≠ 5 → gA (sA (sF σ2 0 0) 2 5 p0) 2 i = gA σ2 2 i := fun i hi => by rw [gA_sA, if_neg (fun h => hi h.2)]; rfl
  refine ⟨hT, hFa, ⟨⟨c0, l⟩, c1, c2, c3, c4, ⟨rfl, by show 0 ≤ p0; omega, by show p0 ≤ 999; omega⟩, ?_, ?_, ?_, ?_, ?_⟩, hM, hD, ?_, ?_, hTo, hRe⟩
  · intro h hh; rw [e (0 + 1) (by omega)] at hh; rw [e _ (by omega), e _ (by omega)]; exact c6 h hh
  · intro i j hij hj; rw [e (0 + 1) (by omega)] at hj; rw [e _ (by omega), e _ (by omega)]; exact c7 i j hij hj
  · intro h hh; rw [e (0 + 2) (by omega)] at hh; rw [e (0 + 26 + 4 * h) (by omega), e (0 + 27 + 4 * h) (by omega), e (0 + 28 + 4 * h) (by omega), e (0 + 29 + 4 * h) (by omega)]; exact c8 h hh
  · intro h hh; rw [e (0 + 3) (by omega)] at hh; rw [e _ (by omega), e _ (by omega)]; exact c9 h hh
  · intro h hh; rw [e (0 + 4) (by omega)] at hh; rw [e (0 + 58 + 3 * h) (by omega), e (0 + 59 + 3 * h) (by omega), e (0 + 60 + 3 * h) (by omega)]; exact d1 h hh
  · refine ⟨hI0.1, hI0.2.1, fun e => SC_fr (hI0.2.2 e) (fun q hq => ?_) (fun _ _ _ => rfl) (fun _ _ _ => rfl)⟩
    rw [gF_sF, if_neg]
    rcases hq with rfl | rfl | rfl | rfl | rfl | rfl | rfl | rfl <;> decide
  · refine ⟨hI1.1, hI1.2.1, fun e => SC_fr (hI1.2.2 e) (fun q hq => ?_) (fun _ _ _ => rfl) (fun _ _ _ => rfl)⟩
    rw [gF_sF, if_neg]
    rcases hq with rfl | rfl | rfl | rfl | rfl | rfl | rfl | rfl <;> decide
theorem s_hearer : Sp_hearer F RR := by
  intro x σ1 σ2 p0 p1 hR h0 h1
  obtain ⟨hI, hW, hV⟩ := RR_view hR
  have g1 := hW.2.1
  have v1 := hV.1 1
  have i1 := hI.2.1
  refine spx ?_
  have hz : RR x σ1 (sF σ2 0 0) := RR_fr hR WFr.rf (MFr.sF rfl MFr.rf)
  have hz1 : RR x σ1 (sF σ2 0 1) := RR_fr hR WFr.rf (MFr.sF rfl MFr.rf)
  unfold f_W_hearer f_M_hearer
  by_cases c : (0 ≤ p0 ∧ p0 < svw σ2 1) ∧ 0 ≤ p1 ∧ p1 ≤ 1
  · have hh := hI.2.2.2.2.2.2.1 p0 c.1.1 c.1.2
    have hw := hW.2.2.2.2.2.2.1 p0 c.1.1 c.1.2
    have hp := PR_b hI.1
    have e1 : gA σ1 55 p0.toNat = gA σ2 2 (6 + 2 * p0.toNat) := hw.1
    have e2 : gA σ1 59 p0.toNat = gA σ2 2 (7 + 2 * p0.toNat) := hw.2
    have e3 : plS (svw σ2) p0 = gA σ2 2 (6 + 2 * p0.toNat) := rfl
    have e4 : gnS (svw σ2) p0 = gA σ2 2 (7 + 2 * p0.toNat) := rfl
    repeat' (first | (exfalso; omega) | (refine ev_bs ?_; try simp (disch := decide) only [gF_eq, gF_ne, gF_sA, gA_sF, gA_ne, gA_eq, Int.reduceToNat]) | refine ev_bv ?_ | refine ev_g (by omega) ?_ | refine ev_hasH' hW.2.1 (by omega) (fun hc => ?_) (fun hc => ?_) | refine ev_isHearer' (hV.1 1) (by omega) (fun hc => ?_) (fun hc => ?_) | refine ev_isIn (by omega) (fun hc => ?_) (fun hc => ?_) | refine ev_thr1 ?_ | refine ev_thr0 ?_ | refine ev_g (ne_thr (by omega)) ?_ | (refine ev_s ?_; try dsimp only; try simp (disch := decide) only [gF_eq, gF_ne, gF_sA, gA_sF, gA_ne, gA_eq, Int.reduceToNat]) | refine ev_if (fun hc => ?_) (fun hc => ?_))
    all_goals (have hn : rng (gA σ2 2 (6 + 2 * p0.toNat)) := by omega)
    all_goals (have hn2 : rng (gA σ2 2 (7 + 2 * p0.toNat)) := by omega)
    all_goals first | (rw [show Int.toNat (6 + 2 * p0 + p1) = 6 + 2 * p0.toNat by omega, e1]; exact ⟨Or.inr hn, hn, by rw [if_neg (ne_thr hn)]; rfl, fun _ => rfl, hz⟩) | (rw [show Int.toNat (6 + 2 * p0 + p1) = 7 + 2 * p0.toNat by omega, e2]; exact ⟨Or.inr hn2, hn2, by rw [if_neg (ne_thr hn2)]; rfl, fun _ => rfl, hz⟩)
  · repeat' (first | (exfalso; omega) | (refine ev_bs ?_; try simp (disch := decide) only [gF_eq, gF_ne, gF_sA, gA_sF, gA_ne, gA_eq, Int.reduceToNat]) | refine ev_bv ?_ | refine ev_g (by omega) ?_ | refine ev_hasH' hW.2.1 (by omega) (fun hc => ?_) (fun hc => ?_) | refine ev_isHearer' (hV.1 1) (by omega) (fun hc => ?_) (fun hc => ?_) | refine ev_isIn (by omega) (fun hc => ?_) (fun hc => ?_) | refine ev_thr1 ?_ | refine ev_thr0 ?_ | (refine ev_s ?_; try dsimp only; try simp (disch := decide) only [gF_eq, gF_ne, gF_sA, gA_sF, gA_ne, gA_eq, Int.reduceToNat]) | refine ev_if (fun hc => ?_) (fun hc => ?_))
    all_goals exact ⟨Or.inl rfl, by decide, by rw [if_pos rfl]; rfl, fun h => absurd rfl h, hz1⟩
theorem s_sender : Sp_sender F RR := by
  intro x σ1 σ2 p0 p1 hR h0 h1
  obtain ⟨hI, hW, hV⟩ := RR_view hR
  have g1 := hW.2.2.1
  have v1 := hV.1 2
  have i1 := hI.2.2.1
  refine spx ?_
  have hz : RR x σ1 (sF σ2 0 0) := RR_fr hR WFr.rf (MFr.sF rfl MFr.rf)
  have hz1 : RR x σ1 (sF σ2 0 1) := RR_fr hR WFr.rf (MFr.sF rfl MFr.rf)
  have hV0 := MV_0 (v := 0) hV
  unfold f_W_sender f_M_sender
  by_cases c : (0 ≤ p0 ∧ p0 < svw σ2 2) ∧ 0 ≤ p1 ∧ p1 ≤ 3
  · have hh := hI.2.2.2.2.2.2.2.2.1 p0 c.1.1 c.1.2
    have hw := hW.2.2.2.2.2.2.2.1 p0 c.1.1 c.1.2
    have hp := hI.1
    have hd := dirS_b hI p0
    have e1 : gA σ1 67 p0.toNat = gA σ2 2 (27 + 4 * p0.toNat) := hw.2.1
    have e2 : gA σ1 71 p0.toNat = gA σ2 2 (28 + 4 * p0.toNat) := hw.2.2.1
    have e3 : gA σ1 75 p0.toNat = gA σ2 2 (29 + 4 * p0.toNat) := hw.2.2.2
    have e4 : ldS (svw σ2) p0 = gA σ2 2 (27 + 4 * p0.toNat) := rfl
    have e5 : drS (svw σ2) p0 = gA σ2 2 (28 + 4 * p0.toNat) := rfl
    have e6 : flS (svw σ2) p0 = gA σ2 2 (29 + 4 * p0.toNat) := rfl
    simp only [Int.reduceToNat, v1]
    repeat' (first | (exfalso; omega) | (refine ev_bs ?_; try simp (disch := decide) only [gF_eq, gF_ne, gF_sA, gA_sF, gA_ne, gA_eq, Int.reduceToNat]) | refine ev_bv ?_ | refine ev_g (by omega) ?_ | refine ev_be (W_dirOf hI hW c.1) ?_ | refine ev_be (M_wayOf hI hV0 c.1) ?_ | refine ev_isIn (by omega) (fun hc => ?_) (fun hc => ?_) | refine ev_thr1 ?_ | refine ev_thr0 ?_ | refine ev_g (ne_thr (by omega)) ?_ | (refine ev_s ?_; try dsimp only; try simp (disch := decide) only [gF_eq, gF_ne, gF_sA, gA_sF, gA_ne, gA_eq, Int.reduceToNat]) | refine ev_if (fun hc => ?_) (fun hc => ?_))
    all_goals (have hn : rng (dirS (svw σ2) p0) := by omega)
    all_goals (have hn1 : rng (gA σ2 2 (27 + 4 * p0.toNat)) := by omega)
    all_goals (have hn2 : rng (gA σ2 2 (28 + 4 * p0.toNat)) := by omega)
    all_goals (have hn3 : rng (gA σ2 2 (29 + 4 * p0.toNat)) := by omega)
    all_goals first | exact ⟨Or.inr hn, hn, by rw [if_neg (ne_thr hn)]; rfl, fun _ => rfl, hz⟩ | (rw [show Int.toNat (26 + 4 * p0 + p1) = 27 + 4 * p0.toNat by omega, e1]; exact ⟨Or.inr hn1, hn1, by rw [if_neg (ne_thr hn1)]; rfl, fun _ => rfl, hz⟩) | (rw [show Int.toNat (26 + 4 * p0 + p1) = 28 + 4 * p0.toNat by omega, e2]; exact ⟨Or.inr hn2, hn2, by rw [if_neg (ne_thr hn2)]; rfl, fun _ => rfl, hz⟩) | (rw [show Int.toNat (26 + 4 * p0 + p1) = 29 + 4 * p0.toNat by omega, e3]; exact ⟨Or.inr hn3, hn3, by rw [if_neg (ne_thr hn3)]; rfl, fun _ => rfl, hz⟩)
  · simp only [Int.reduceToNat, v1]
    repeat' (first | (exfalso; omega) | (refine ev_bs ?_; try simp (disch := decide) only [gF_eq, gF_ne, gF_sA, gA_sF, gA_ne, gA_eq, Int.reduceToNat]) | refine ev_bv ?_ | refine ev_g (by omega) ?_ | refine ev_isIn (by omega) (fun hc => ?_) (fun hc => ?_) | refine ev_thr1 ?_ | refine ev_thr0 ?_ | (refine ev_s ?_; try dsimp only; try simp (disch := decide) only [gF_eq, gF_ne, gF_sA, gA_sF, gA_ne, gA_eq, Int.reduceToNat]) | refine ev_if (fun hc => ?_) (fun hc => ?_))
    all_goals exact ⟨Or.inl rfl, by decide, by rw [if_pos rfl]; rfl, fun h => absurd rfl h, hz1⟩
end
