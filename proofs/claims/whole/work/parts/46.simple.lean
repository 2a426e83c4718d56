/-! PURE PART: the simple calls -/
theorem gF_eq {σ : St} {k : Nat} {v : Int} : gF (sF σ k v) k = v := by simp [gF_sF]
theorem gF_ne {σ : St} {k j : Nat} {v : Int} (h : Nat.beq j k = false) : gF (sF σ k v) j = gF σ j := by rw [gF_sF, if_neg (Nat.ne_of_beq_eq_false h)]
theorem gA_eq {σ : St} {k i : Nat} {v : Int} : gA (sA σ k i v) k i = v := by simp [gA_sA]
theorem gA_ne {σ : St} {k i a j : Nat} {v : Int} (h : Nat.beq a k = false) : gA (sA σ k i v) a j = gA σ a j := by rw [gA_sA, if_neg (fun e => Nat.ne_of_beq_eq_false h e.1)]
theorem sp1 {x : Bool} {f g : Option (Int × St)} (h : Ev f fun r1 s1 => Ev g fun r2 s2 => r1 = r2 ∧ RR x s1 s2) : ∃ (r : Int) (σ1' σ2' : St), f = some (r, σ1') ∧ g = some (r, σ2') ∧ RR x σ1' σ2' := by
  obtain ⟨r, s, e, r2, s2, e2, rfl, h⟩ := h
  exact ⟨r, s, s2, e, e2, h⟩
section
variable {F : Nat} {σ : St} {k : Int → St → Option (Int × St)} {Q : Int → St → Prop}
theorem ev_isIn {x lo hi : Int} (h : rng x ∧ rng lo ∧ rng hi) (h1 : lo ≤ x ∧ x ≤ hi → Ev (k 1 σ) Q) (h2 : ¬ (lo ≤ x ∧ x ≤ hi) → Ev (k 0 σ) Q) : Ev (bnd (f_M_isIn F σ x lo hi) k) Q := by
  unfold f_M_isIn
  rw [gd_t ⟨h.1, h.2.1⟩]
  by_cases c : x < lo
  · rw [if_pos c]; exact h2 (by omega)
  · rw [if_neg c, gd_t ⟨h.1, h.2.2⟩]
    by_cases c2 : hi < x
    · rw [if_pos c2]; exact h2 (by omega)
    · rw [if_neg c2]; exact h1 (by omega)
theorem ev_isHearer {x : Int} (h : rng x ∧ 0 ≤ gA σ 2 1 ∧ gA σ 2 1 ≤ 10) (h1 : 0 ≤ x ∧ x < gA σ 2 1 → Ev (k 1 σ) Q) (h2 : ¬ (0 ≤ x ∧ x < gA σ 2 1) → Ev (k 0 σ) Q) : Ev (bnd (f_M_isHearer F σ x) k) Q := by
  unfold f_M_isHearer
  rw [gd_t ⟨by decide, by decide⟩]
  show Ev (bnd (bnd (f_M_isIn F σ x 0 (gA σ 2 1 - 1)) _) k) Q
  have e : f_M_isIn F σ x 0 (gA σ 2 1 - 1) = if 0 ≤ x ∧ x < gA σ 2 1 then some (1, σ) else some (0, σ) := by
    have := ev_isIn (F := F) (σ := σ) (x := x) (lo := 0) (hi := gA σ 2 1 - 1) (k := fun r s => some (r, s)) (Q := fun r s => (r, s) = if 0 ≤ x ∧ x < gA σ 2 1 then (1, σ) else (0, σ)) (by omega) (fun hc => ev_s (by rw [if_pos (by omega)])) (fun hc => ev_s (by rw [if_neg (by omega)]))
    obtain ⟨r, s, e1, e2⟩ := this
    cases hq : f_M_isIn F σ x 0 (gA σ 2 1 - 1) with
    | none => rw [hq] at e1; cases e1
    | some z =>
      rw [hq] at e1
      have : z = (r, s) := Option.some.inj e1
      rw [this, e2]
      by_cases c : 0 ≤ x ∧ x < gA σ 2 1
      · rw [if_pos c, if_pos c]
      · rw [if_neg c, if_neg c]
  rw [e]
  by_cases c : 0 ≤ x ∧ x < gA σ 2 1
  · rw [if_pos c]; exact h1 c
  · rw [if_neg c]; exact h2 c
theorem ev_isWay {x : Int} (h : rng x ∧ 0 ≤ gA σ 2 0 ∧ gA σ 2 0 ≤ 60) (h1 : 0 ≤ x ∧ x < gA σ 2 0 → Ev (k 1 σ) Q) (h2 : ¬ (0 ≤ x ∧ x < gA σ 2 0) → Ev (k 0 σ) Q) : Ev (bnd (f_M_isWay F σ x) k) Q := by
  unfold f_M_isWay
  rw [gd_t ⟨by decide, by decide⟩]
  show Ev (bnd (bnd (f_M_isIn F σ x 0 (gA σ 2 0 - 1)) _) k) Q
  have e : f_M_isIn F σ x 0 (gA σ 2 0 - 1) = if 0 ≤ x ∧ x < gA σ 2 0 then some (1, σ) else some (0, σ) := by
    have := ev_isIn (F := F) (σ := σ) (x := x) (lo := 0) (hi := gA σ 2 0 - 1) (k := fun r s => some (r, s)) (Q := fun r s => (r, s) = if 0 ≤ x ∧ x < gA σ 2 0 then (1, σ) else (0, σ)) (by omega) (fun hc => ev_s (by rw [if_pos (by omega)])) (fun hc => ev_s (by rw [if_neg (by omega)]))
    obtain ⟨r, s, e1, e2⟩ := this
    cases hq : f_M_isIn F σ x 0 (gA σ 2 0 - 1) with
    | none => rw [hq] at e1; cases e1
    | some z =>
      rw [hq] at e1
      have : z = (r, s) := Option.some.inj e1
      rw [this, e2]
      by_cases c : 0 ≤ x ∧ x < gA σ 2 0
      · rw [if_pos c, if_pos c]
      · rw [if_neg c, if_neg c]
  rw [e]
  by_cases c : 0 ≤ x ∧ x < gA σ 2 0
  · rw [if_pos c]; exact h1 c
  · rw [if_neg c]; exact h2 c
theorem ev_hasH {x : Int} (h : rng x ∧ 0 ≤ gF σ 5059 ∧ gF σ 5059 ≤ 10) (h1 : 0 ≤ x ∧ x < gF σ 5059 → Ev (k 1 σ) Q) (h2 : ¬ (0 ≤ x ∧ x < gF σ 5059) → Ev (k 0 σ) Q) : Ev (bnd (f_Scene_hasHearer_scene0 F σ x) k) Q := by
  unfold f_Scene_hasHearer_scene0
  rw [gd_t h.1]
  by_cases c : x < 0
  · rw [if_pos c]; exact h2 (by omega)
  · rw [if_neg c, gd_t (by omega)]
    by_cases c2 : gF σ 5059 ≤ x
    · rw [if_pos c2]; exact h2 (by omega)
    · rw [if_neg c2]; exact h1 (by omega)
theorem ev_has {x : Int} (h : rng x ∧ 0 ≤ gF σ 1472 ∧ gF σ 1472 ≤ 60) (h1 : 0 ≤ x ∧ x < gF σ 1472 → Ev (k 1 σ) Q) (h2 : ¬ (0 ≤ x ∧ x < gF σ 1472) → Ev (k 0 σ) Q) : Ev (bnd (f_Lattice_has_lattice0 F σ x) k) Q := by
  unfold f_Lattice_has_lattice0
  rw [gd_t h.1]
  by_cases c : x < 0
  · rw [if_pos c]; exact h2 (by omega)
  · rw [if_neg c, gd_t (by omega)]
    by_cases c2 : gF σ 1472 ≤ x
    · rw [if_pos c2]; exact h2 (by omega)
    · rw [if_neg c2]; exact h1 (by omega)
theorem ev_isWay' {x n : Int} (hn : gA σ 2 0 = n) (h : rng x ∧ 0 ≤ n ∧ n ≤ 60) (h1 : 0 ≤ x ∧ x < n → Ev (k 1 σ) Q) (h2 : ¬ (0 ≤ x ∧ x < n) → Ev (k 0 σ) Q) : Ev (bnd (f_M_isWay F σ x) k) Q := by subst hn; exact ev_isWay h h1 h2
theorem ev_isHearer' {x n : Int} (hn : gA σ 2 1 = n) (h : rng x ∧ 0 ≤ n ∧ n ≤ 10) (h1 : 0 ≤ x ∧ x < n → Ev (k 1 σ) Q) (h2 : ¬ (0 ≤ x ∧ x < n) → Ev (k 0 σ) Q) : Ev (bnd (f_M_isHearer F σ x) k) Q := by subst hn; exact ev_isHearer h h1 h2
theorem ev_has' {x n : Int} (hn : gF σ 1472 = n) (h : rng x ∧ 0 ≤ n ∧ n ≤ 60) (h1 : 0 ≤ x ∧ x < n → Ev (k 1 σ) Q) (h2 : ¬ (0 ≤ x ∧ x < n) → Ev (k 0 σ) Q) : Ev (bnd (f_Lattice_has_lattice0 F σ x) k) Q := by subst hn; exact ev_has h h1 h2
theorem ev_hasH' {x n : Int} (hn : gF σ 5059 = n) (h : rng x ∧ 0 ≤ n ∧ n ≤ 10) (h1 : 0 ≤ x ∧ x < n → Ev (k 1 σ) Q) (h2 : ¬ (0 ≤ x ∧ x < n) → Ev (k 0 σ) Q) : Ev (bnd (f_Scene_hasHearer_scene0 F σ x) k) Q := by subst hn; exact ev_hasH h h1 h2
theorem ev_thr1 (h : Ev (k 1 (sF σ 0 1)) Q) : Ev (bnd (f_M_throwsIf F σ 1) k) Q := h
theorem ev_thr0 (h : Ev (k 0 (sF σ 0 0)) Q) : Ev (bnd (f_M_throwsIf F σ 0) k) Q := h
end
section
variable {F : Nat}
theorem s_count : Sp_count F RR := by
  intro x σ1 σ2 p0 hR h0
  obtain ⟨hT, hFa, hS, hM, hD, hI0, hI1, hTo, hRe⟩ := id hR
  obtain ⟨⟨s0, s0'⟩, s1, s2, s3, s4, s5, -⟩ := hS
  refine sp1 ?_
  have hz : RR x σ1 (sF σ2 0 0) := RR_fr hR WFr.rf (MFr.sF rfl MFr.rf)
  unfold f_W_count f_M_count
  repeat' (first | (exfalso; omega) | (refine ev_bs ?_; try simp (disch := decide) only [gF_eq, gF_ne, gF_sA, gA_sF, gA_ne, gA_eq, Int.reduceToNat]) | refine ev_bv ?_ | refine ev_g (by omega) ?_ | (refine ev_s ?_; try dsimp only; try simp (disch := decide) only [gF_eq, gF_ne, gF_sA, gA_sF, gA_ne, gA_eq, Int.reduceToNat]) | refine ev_if (fun hc => ?_) (fun hc => ?_))
  all_goals refine ⟨?_, hz⟩
  all_goals first | rfl | exact s0'.1 | exact s0'.2.1.trans hM.1.symm | exact s0'.2.2.1.trans hM.2.1.symm | exact s1.1 | exact s2.1 | exact s3.1 | exact s4.1 | exact s5.1 | exact hT.1
theorem s_fault : Sp_fault F RR := by
  intro x σ1 σ2 hR
  exact ⟨_, _, _, rfl, by unfold f_M_fault; rw [hR.2.1]; rfl, RR_fr hR WFr.rf (MFr.sF rfl MFr.rf)⟩
theorem s_roots : Sp_roots F RR := by
  intro x σ1 σ2 hR
  obtain ⟨hT, hFa, hS, hM, hD, hI0, hI1, hTo, hRe⟩ := id hR
  exact ⟨_, _, _, rfl, by unfold f_M_roots; rw [hTo.1.2.2.2.2.1]; rfl, RR_fr hR WFr.rf (MFr.sF rfl MFr.rf)⟩
theorem s_end : Sp_end F RR := by
  intro x σ1 σ2 p0 hR h0
  obtain ⟨hT, hFa, hS, hM, hD, hI0, hI1, hTo, hRe⟩ := id hR
  obtain ⟨t1, t2, t3, t4⟩ := id hT
  refine sp1 ?_
  have hz : RR x σ1 (sF σ2 0 0) := RR_fr hR WFr.rf (MFr.sF rfl MFr.rf)
  unfold f_W_end f_M_end
  repeat' (first | (exfalso; omega) | (refine ev_bs ?_; try simp (disch := decide) only [gF_eq, gF_ne, gF_sA, gA_sF, gA_ne, gA_eq, Int.reduceToNat]) | refine ev_bv ?_ | refine ev_g (by omega) ?_ | (refine ev_s ?_; try dsimp only; try simp (disch := decide) only [gF_eq, gF_ne, gF_sA, gA_sF, gA_ne, gA_eq, Int.reduceToNat]) | refine ev_if (fun hc => ?_) (fun hc => ?_))
  all_goals refine ⟨rfl, ?_⟩
  all_goals first | exact hz | skip
  refine ⟨⟨rfl, by show 0 ≤ p0; omega, by show p0 ≤ 940; omega, t4⟩, hFa, SC_fr hS (fun q hq => ?_) (fun _ _ _ => rfl) (fun _ _ _ => rfl), hM, hD, ?_, ?_, hTo, hRe⟩
  · rw [gF_sF, if_neg]
    rcases hq with rfl | rfl | rfl | rfl | rfl | rfl | rfl | rfl <;> decide
  · refine ⟨hI0.1, hI0.2.1, fun e => SC_fr (hI0.2.2 e) (fun q hq => ?_) (fun _ _ _ => rfl) (fun _ _ _ => rfl)⟩
    rw [gF_sF, if_neg]
    rcases hq with rfl | rfl | rfl | rfl | rfl | rfl | rfl | rfl <;> decide
  · refine ⟨hI1.1, hI1.2.1, fun e => SC_fr (hI1.2.2 e) (fun q hq => ?_) (fun _ _ _ => rfl) (fun _ _ _ => rfl)⟩
    rw [gF_sF, if_neg]
    rcases hq with rfl | rfl | rfl | rfl | rfl | rfl | rfl | rfl <;> decide
end
