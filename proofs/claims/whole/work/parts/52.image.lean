/-! PURE PART: image, restore -/
section
variable {F : Nat}
theorem M_img : ∀ (d n : Nat) (σ : St) (i x : Nat), d < n → x < 2 → i + d = 82 → ∃ σ', l_M_image_18 F n σ (x : Nat) (i : Nat) = some (1, σ') ∧ (∀ q, gF σ' q = gF σ q) ∧ (∀ a, a ≠ 22 → a ≠ 23 → ∀ j, gA σ' a j = gA σ a j) ∧ (∀ j, gA σ' 23 j = if j = x then 1 else gA σ 23 j) ∧ ∀ j, gA σ' 22 j = if 82 * x + i ≤ j ∧ j < 82 * x + 82 then gA σ 2 (j - 82 * x) else gA σ 22 j
  | _, 0, _, _, _, h, _, _ => by omega
  | 0, n + 1, σ, i, x, _, hx, hd => by
    simp only [l_M_image_18, b_M_image_18, bs, bv]
    rw [gd_t (by omega), if_pos (by omega), gd_t (by omega)]
    refine ⟨_, rfl, fun _ => rfl, fun a _ h j => by rw [gA_sA, if_neg (fun e => h e.1)], fun j => ?_, fun j => ?_⟩
    · rw [gA_sA, show Int.toNat (x : Int) = x by omega]
      by_cases c : j = x
      · rw [if_pos ⟨rfl, c⟩, if_pos c]
      · rw [if_neg (fun e => c e.2), if_neg c]
    · rw [if_neg (by omega), gA_sA, if_neg (by omega)]
  | d + 1, n + 1, σ, i, x, hn, hx, hd => by
    simp only [l_M_image_18, b_M_image_18, bs, bv]
    rw [gd_t (by omega), if_neg (by omega), gd_t (by omega), gd_t (by omega)]
    obtain ⟨σ', e1, e2, e3, e4, e5⟩ := M_img d n (sA σ 22 (82 * x + i) (gA σ 2 i)) (i + 1) x (by omega) hx (by omega)
    refine ⟨σ', ?_, e2, fun a h1 h2 j => ?_, fun j => ?_, fun j => ?_⟩
    · rw [← e1]
      rfl
    · rw [e3 a h1 h2, gA_sA, if_neg (fun e => h1 e.1)]
    · rw [e4]
      simp only [gA_sA]
      grind
    · rw [e5]
      simp only [gA_sA]
      grind
theorem M_rst : ∀ (d n : Nat) (σ : St) (i x : Nat), d < n → x < 2 → i + d = 82 → ∃ σ', l_M_restore_27 F n σ (x : Nat) (i : Nat) = bnd (f_M_settle F σ') (fun r4 σ5 => some (1, σ5)) ∧ (∀ q, gF σ' q = gF σ q) ∧ (∀ a, a ≠ 2 → ∀ j, gA σ' a j = gA σ a j) ∧ ∀ j, gA σ' 2 j = if i ≤ j ∧ j < 82 then gA σ 22 (82 * x + j) else gA σ 2 j
  | _, 0, _, _, _, h, _, _ => by omega
  | 0, n + 1, σ, i, x, _, hx, hd => by
    simp only [l_M_restore_27, b_M_restore_27, bs, bv]
    rw [gd_t (by omega), if_pos (by omega)]
    exact ⟨σ, rfl, fun _ => rfl, fun a _ j => rfl, fun j => by rw [if_neg (by omega)]⟩
  | d + 1, n + 1, σ, i, x, hn, hx, hd => by
    simp only [l_M_restore_27, b_M_restore_27, bs, bv]
    rw [gd_t (by omega), if_neg (by omega), gd_t (by omega), gd_t (by omega)]
    obtain ⟨σ', e1, e2, e3, e4⟩ := M_rst d n (sA σ 2 i (gA σ 22 (82 * x + i))) (i + 1) x (by omega) hx (by omega)
    refine ⟨σ', ?_, e2, fun a h1 j => ?_, fun j => ?_⟩
    · rw [← e1]
      rfl
    · rw [e3 a h1, gA_sA, if_neg (fun e => h1 e.1)]
    · rw [e4]
      simp only [gA_sA]
      grind

theorem img_0 (hF : 100 ≤ F) {x : Bool} {σ1 σ2 : St} (hR : RR x σ1 σ2) : Ev (f_W_image F σ1 0) fun r1 s1 => Ev (f_M_image F σ2 0) fun r2 s2 => r1 = r2 ∧ RR x s1 s2 := by
  have hz : RR x σ1 (sF σ2 0 0) := RR_fr hR WFr.rf (MFr.sF rfl MFr.rf)
  obtain ⟨s1, e1, e2, e3, e4⟩ := cp_2_0 (F := F) (σ := σ1)
  obtain ⟨s2, k1, k2, k3, k4, k5⟩ := M_img (F := F) 82 F (sF σ2 0 0) 0 0 (by omega) (by omega) rfl
  unfold f_W_image f_M_image
  refine ev_g (by decide) ?_
  rw [if_neg (by decide)]
  refine ev_g (by decide) ?_
  rw [if_pos (by decide)]
  refine ev_g (by decide) ?_
  rw [if_pos rfl]
  refine ev_be e1 (ev_g (by decide) (ev_bs (ev_s (ev_bs ?_))))
  refine ev_isIn (by decide) (fun _ => ?_) (fun h => absurd (by decide) h)
  refine ev_g (by decide) ?_
  rw [if_neg (by decide)]
  refine ev_e k1 ⟨rfl, ?_⟩
  have g := RR_mix (σ1' := sA s1 84 (Int.toNat 0) 1) (σ2' := s2) (scFb 2) (fun a => scAb 2 a || a == 84) (fun _ => false) (fun a => a == 22 || a == 23) hz (fun q hq _ => e3 q (scFb_iff hq)) (fun a ha _ i => by
    rw [Bool.or_eq_false_iff] at ha
    rw [gA_sA, if_neg (fun e => by rw [e.1] at ha; exact absurd ha.2 (by decide))]
    exact e4 a (scAb_iff ha.1) i) (fun q _ _ => k2 q) (fun a ha _ i => k3 a (by intro e; subst e; cases ha) (by intro e; subst e; cases ha) i)
  have hkeep : RImg (sA s1 84 (Int.toNat 0) 1) s2 1 := by
    have hI := hz.2.2.2.2.2.2.1
    refine ⟨?_, ?_, fun h => ?_⟩
    · rw [gA_sA, if_neg (by decide), e4 84 (by unfold scA; omega), k4, if_neg (by decide)]; exact hI.1
    · rw [k4, if_neg (by decide)]; exact hI.2.1
    · rw [k4, if_neg (by decide)] at h
      refine SC_fr (hI.2.2 h) (fun q hq => ?_) (fun a ha i => ?_) (fun i h1 h2 => ?_)
      · exact e3 q (by unfold scF at hq ⊢; omega)
      · rw [gA_sA, if_neg (by unfold scA at ha; omega)]; exact e4 a (by unfold scA at ha ⊢; omega) i
      · rw [k5, if_neg (by omega)]; try rfl
  have hnew : RImg (sA s1 84 (Int.toNat 0) 1) s2 0 := by
    refine ⟨?_, ?_, fun _ => ?_⟩
    · rw [k4, if_pos rfl]; exact gA_eq
    · rw [k4, if_pos rfl]; decide
    · refine SC_mv hR.2.2.1 ?_ (fun i hi => ?_)
      · refine ⟨e2.1, ?_⟩
        have := e2.2
        simp only [gA_sA]
        simpa using this
      · rw [k5, if_pos (by omega), gA_sF]
        congr 1
        all_goals omega
  exact ⟨g.1, g.2.1, g.2.2.1, g.2.2.2.1, g.2.2.2.2.1, hnew, hkeep, g.2.2.2.2.2.2.2⟩
theorem rst_0 (hF : 2000 ≤ F) {x : Bool} {σ1 σ2 : St} (hR : RR x σ1 σ2) : Ev (f_W_restore F σ1 0) fun r1 s1 => Ev (f_M_restore F σ2 0) fun r2 s2 => r1 = r2 ∧ RR x s1 s2 := by
  have hz : RR x σ1 (sF σ2 0 0) := RR_fr hR WFr.rf (MFr.sF rfl MFr.rf)
  have hI := hR.2.2.2.2.2.1
  obtain ⟨h1, h2, h3⟩ := hI
  unfold f_W_restore f_M_restore
  refine ev_g (by decide) ?_
  rw [if_neg (by decide)]
  refine ev_g (by decide) ?_
  rw [if_neg (by decide)]
  refine ev_g (by decide) ?_
  rcases h2 with h2 | h2
  · refine ev_g (by simp only [Int.reduceToNat]; omega) ?_
    rw [if_pos (by simp only [Int.reduceToNat]; omega)]
    refine ev_s (ev_bs ?_)
    refine ev_isIn (by decide) (fun _ => ?_) (fun h => absurd (by decide) h)
    refine ev_g (by decide) ?_
    rw [if_neg (by decide)]
    refine ev_g (by decide) (ev_g (by simp only [gA_sF, Int.reduceToNat]; omega) ?_)
    rw [if_pos (by simp only [gA_sF, Int.reduceToNat]; omega)]
    exact ev_s ⟨rfl, hz⟩
  · obtain ⟨s1, e1, e2, e3, e4⟩ := cp_0_2 (F := F) (σ := σ1)
    obtain ⟨s2, k1, k2, k3, k4⟩ := M_rst (F := F) 82 F (sF σ2 0 0) 0 0 (by omega) (by omega) rfl
    have hS := h3 h2
    have hSC : SC s1 s2 0 2 0 := by
      refine SC_mv hS e2 (fun i hi => ?_)
      rw [k4, if_pos (by omega)]
      show gA σ2 22 _ = _
      congr 1
      all_goals omega
    obtain ⟨s3, m1, m2, m3, m4, m5, m6⟩ := M_settle (F := F) (σ := s2) (n := gA s2 2 0) hF hSC.1.1 rfl
    refine ev_g (by simp only [Int.reduceToNat]; omega) ?_
    rw [if_neg (by simp only [Int.reduceToNat]; omega)]
    refine ev_g (by decide) ?_
    rw [if_pos rfl]
    refine ev_be e1 (ev_s (ev_bs ?_))
    refine ev_isIn (by decide) (fun _ => ?_) (fun h => absurd (by decide) h)
    refine ev_g (by decide) ?_
    rw [if_neg (by decide)]
    refine ev_g (by decide) (ev_g (by simp only [gA_sF, Int.reduceToNat]; omega) ?_)
    rw [if_neg (by simp only [gA_sF, Int.reduceToNat]; omega)]
    refine ev_e (k1.trans (by rw [m1, bnd_s])) ⟨rfl, ?_⟩
    have e20 : ∀ i, gA s3 2 i = gA s2 2 i := m6 2 (by decide)
    refine RR_scene hz (SC_fr hSC (fun _ _ => rfl) (fun _ _ _ => rfl) (fun i _ _ => e20 i)) ⟨by rw [e20]; exact m2, by rw [e20]; exact m3, fun i hi => by rw [e20] at hi ⊢; exact m4 i hi⟩ (fun q hq _ => e3 q hq) (fun a ha _ i => e4 a ha i) (fun q a b _ => by rw [m5 q a b, k2]) (fun a h1 h2 _ i => by rw [m6 a h2, k3 a h1])

theorem img_1 (hF : 100 ≤ F) {x : Bool} {σ1 σ2 : St} (hR : RR x σ1 σ2) : Ev (f_W_image F σ1 1) fun r1 s1 => Ev (f_M_image F σ2 1) fun r2 s2 => r1 = r2 ∧ RR x s1 s2 := by
  have hz : RR x σ1 (sF σ2 0 0) := RR_fr hR WFr.rf (MFr.sF rfl MFr.rf)
  obtain ⟨s1, e1, e2, e3, e4⟩ := cp_3_0 (F := F) (σ := σ1)
  obtain ⟨s2, k1, k2, k3, k4, k5⟩ := M_img (F := F) 82 F (sF σ2 0 0) 0 1 (by omega) (by omega) rfl
  unfold f_W_image f_M_image
  refine ev_g (by decide) ?_
  rw [if_neg (by decide)]
  refine ev_g (by decide) ?_
  rw [if_pos (by decide)]
  refine ev_g (by decide) ?_
  rw [if_neg (by decide)]
  refine ev_be e1 (ev_g (by decide) (ev_bs (ev_s (ev_bs ?_))))
  refine ev_isIn (by decide) (fun _ => ?_) (fun h => absurd (by decide) h)
  refine ev_g (by decide) ?_
  rw [if_neg (by decide)]
  refine ev_e k1 ⟨rfl, ?_⟩
  have g := RR_mix (σ1' := sA s1 84 (Int.toNat 1) 1) (σ2' := s2) (scFb 3) (fun a => scAb 3 a || a == 84) (fun _ => false) (fun a => a == 22 || a == 23) hz (fun q hq _ => e3 q (scFb_iff hq)) (fun a ha _ i => by
    rw [Bool.or_eq_false_iff] at ha
    rw [gA_sA, if_neg (fun e => by rw [e.1] at ha; exact absurd ha.2 (by decide))]
    exact e4 a (scAb_iff ha.1) i) (fun q _ _ => k2 q) (fun a ha _ i => k3 a (by intro e; subst e; cases ha) (by intro e; subst e; cases ha) i)
  have hkeep : RImg (sA s1 84 (Int.toNat 1) 1) s2 0 := by
    have hI := hz.2.2.2.2.2.1
    refine ⟨?_, ?_, fun h => ?_⟩
    · rw [gA_sA, if_neg (by decide), e4 84 (by unfold scA; omega), k4, if_neg (by decide)]; exact hI.1
    · rw [k4, if_neg (by decide)]; exact hI.2.1
    · rw [k4, if_neg (by decide)] at h
      refine SC_fr (hI.2.2 h) (fun q hq => ?_) (fun a ha i => ?_) (fun i h1 h2 => ?_)
      · exact e3 q (by unfold scF at hq ⊢; omega)
      · rw [gA_sA, if_neg (by unfold scA at ha; omega)]; exact e4 a (by unfold scA at ha ⊢; omega) i
      · rw [k5, if_neg (by omega)]; try rfl
  have hnew : RImg (sA s1 84 (Int.toNat 1) 1) s2 1 := by
    refine ⟨?_, ?_, fun _ => ?_⟩
    · rw [k4, if_pos rfl]; exact gA_eq
    · rw [k4, if_pos rfl]; decide
    · refine SC_mv hR.2.2.1 ?_ (fun i hi => ?_)
      · refine ⟨e2.1, ?_⟩
        have := e2.2
        simp only [gA_sA]
        simpa using this
      · rw [k5, if_pos (by omega), gA_sF]
        congr 1
        all_goals omega
  exact ⟨g.1, g.2.1, g.2.2.1, g.2.2.2.1, g.2.2.2.2.1, hkeep, hnew, g.2.2.2.2.2.2.2⟩
theorem rst_1 (hF : 2000 ≤ F) {x : Bool} {σ1 σ2 : St} (hR : RR x σ1 σ2) : Ev (f_W_restore F σ1 1) fun r1 s1 => Ev (f_M_restore F σ2 1) fun r2 s2 => r1 = r2 ∧ RR x s1 s2 := by
  have hz : RR x σ1 (sF σ2 0 0) := RR_fr hR WFr.rf (MFr.sF rfl MFr.rf)
  have hI := hR.2.2.2.2.2.2.1
  obtain ⟨h1, h2, h3⟩ := hI
  unfold f_W_restore f_M_restore
  refine ev_g (by decide) ?_
  rw [if_neg (by decide)]
  refine ev_g (by decide) ?_
  rw [if_neg (by decide)]
  refine ev_g (by decide) ?_
  rcases h2 with h2 | h2
  · refine ev_g (by simp only [Int.reduceToNat]; omega) ?_
    rw [if_pos (by simp only [Int.reduceToNat]; omega)]
    refine ev_s (ev_bs ?_)
    refine ev_isIn (by decide) (fun _ => ?_) (fun h => absurd (by decide) h)
    refine ev_g (by decide) ?_
    rw [if_neg (by decide)]
    refine ev_g (by decide) (ev_g (by simp only [gA_sF, Int.reduceToNat]; omega) ?_)
    rw [if_pos (by simp only [gA_sF, Int.reduceToNat]; omega)]
    exact ev_s ⟨rfl, hz⟩
  · obtain ⟨s1, e1, e2, e3, e4⟩ := cp_0_3 (F := F) (σ := σ1)
    obtain ⟨s2, k1, k2, k3, k4⟩ := M_rst (F := F) 82 F (sF σ2 0 0) 0 1 (by omega) (by omega) rfl
    have hS := h3 h2
    have hSC : SC s1 s2 0 2 0 := by
      refine SC_mv hS e2 (fun i hi => ?_)
      rw [k4, if_pos (by omega)]
      show gA σ2 22 _ = _
      congr 1
      all_goals omega
    obtain ⟨s3, m1, m2, m3, m4, m5, m6⟩ := M_settle (F := F) (σ := s2) (n := gA s2 2 0) hF hSC.1.1 rfl
    refine ev_g (by simp only [Int.reduceToNat]; omega) ?_
    rw [if_neg (by simp only [Int.reduceToNat]; omega)]
    refine ev_g (by decide) ?_
    rw [if_neg (by decide)]
    refine ev_be e1 (ev_s (ev_bs ?_))
    refine ev_isIn (by decide) (fun _ => ?_) (fun h => absurd (by decide) h)
    refine ev_g (by decide) ?_
    rw [if_neg (by decide)]
    refine ev_g (by decide) (ev_g (by simp only [gA_sF, Int.reduceToNat]; omega) ?_)
    rw [if_neg (by simp only [gA_sF, Int.reduceToNat]; omega)]
    refine ev_e (k1.trans (by rw [m1, bnd_s])) ⟨rfl, ?_⟩
    have e20 : ∀ i, gA s3 2 i = gA s2 2 i := m6 2 (by decide)
    refine RR_scene hz (SC_fr hSC (fun _ _ => rfl) (fun _ _ _ => rfl) (fun i _ _ => e20 i)) ⟨by rw [e20]; exact m2, by rw [e20]; exact m3, fun i hi => by rw [e20] at hi ⊢; exact m4 i hi⟩ (fun q hq _ => e3 q hq) (fun a ha _ i => e4 a ha i) (fun q a b _ => by rw [m5 q a b, k2]) (fun a h1 h2 _ i => by rw [m6 a h2, k3 a h1])

theorem s_image (hF : 2000 ≤ F) : Sp_image F RR := by
  intro x σ1 σ2 p0 hR h0
  have hz : RR x σ1 (sF σ2 0 0) := RR_fr hR WFr.rf (MFr.sF rfl MFr.rf)
  refine sp1 ?_
  by_cases c0 : p0 = 0
  · subst c0; exact img_0 (by omega) hR
  · by_cases c1 : p0 = 1
    · subst c1; exact img_1 (by omega) hR
    · unfold f_W_image f_M_image
      have hM : ∀ (k : Int → St → Option (Int × St)) (Q : Int → St → Prop), Ev (k 0 (sF σ2 0 0)) Q → Ev (bs (sF σ2 0 0) fun σ1 => bnd (f_M_isIn F σ1 p0 0 1) k) Q := fun k Q h => ev_bs (ev_isIn (by omega) (fun _ => by exfalso; omega) (fun _ => h))
      refine ev_g (by omega) ?_
      by_cases c2 : p0 < 0
      · rw [if_pos c2]
        refine ev_s (hM _ _ (ev_g (by decide) ?_))
        rw [if_pos rfl]
        exact ev_s ⟨rfl, hz⟩
      · rw [if_neg c2]
        refine ev_g (by omega) ?_
        rw [if_neg (by omega)]
        refine ev_s (hM _ _ (ev_g (by decide) ?_))
        rw [if_pos rfl]
        exact ev_s ⟨rfl, hz⟩

theorem s_restore (hF : 2000 ≤ F) : Sp_restore F RR := by
  intro x σ1 σ2 p0 hR h0
  have hz : RR x σ1 (sF σ2 0 0) := RR_fr hR WFr.rf (MFr.sF rfl MFr.rf)
  refine sp1 ?_
  by_cases c0 : p0 = 0
  · subst c0; exact rst_0 (by omega) hR
  · by_cases c1 : p0 = 1
    · subst c1; exact rst_1 (by omega) hR
    · unfold f_W_restore f_M_restore
      have hM : ∀ (k : Int → St → Option (Int × St)) (Q : Int → St → Prop), Ev (k 0 (sF σ2 0 0)) Q → Ev (bs (sF σ2 0 0) fun σ1 => bnd (f_M_isIn F σ1 p0 0 1) k) Q := fun k Q h => ev_bs (ev_isIn (by omega) (fun _ => by exfalso; omega) (fun _ => h))
      refine ev_g (by omega) ?_
      by_cases c2 : p0 < 0
      · rw [if_pos c2]
        refine ev_s (hM _ _ (ev_g (by decide) ?_))
        rw [if_pos rfl]
        exact ev_s ⟨rfl, hz⟩
      · rw [if_neg c2]
        refine ev_g (by omega) ?_
        rw [if_pos (by omega)]
        refine ev_s (hM _ _ (ev_g (by decide) ?_))
        rw [if_pos rfl]
        exact ev_s ⟨rfl, hz⟩

end
