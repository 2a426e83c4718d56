/-! PURE PART: rule -/
theorem sum_z {f : Nat → Int} : ∀ n, (∀ i, i < n → f i = 0) → sumS f n = 0
  | 0, _ => rfl
  | n + 1, h => by
    unfold sumS
    rw [sum_z n (fun i hi => h i (by omega)), h n (by omega)]; rfl
theorem rnF_b {s : Nat → Int} : ∀ (d x : Nat), ((x : Int) - 1 ≤ rnF s d x ∧ rnF s d x ≤ (x : Int) + d - 1) ∧ ∀ l : Nat, x ≤ l → (l : Int) ≤ rnF s d x → 0 < apS s l
  | 0, x => by
    unfold rnF
    exact ⟨by omega, fun l h1 h2 => by omega⟩
  | d + 1, x => by
    unfold rnF
    by_cases c : apS s x ≤ 0
    · rw [if_pos c]
      exact ⟨by omega, fun l h1 h2 => by omega⟩
    · rw [if_neg c]
      obtain ⟨h1, h2⟩ := rnF_b (s := s) d (x + 1)
      refine ⟨by omega, fun l h3 h4 => ?_⟩
      by_cases q : l = x
      · rw [q]; omega
      · exact h2 l (by omega) h4
section
variable {F : Nat} {s : Nat → Int}
theorem lgF_b (hI : MI s) {l : Int} : ∀ d i, (∀ k, i ≤ k → k < i + d → ptS s k l = -1) ∨ (0 ≤ lgF s l d i ∧ lgF s l d i < PR (s 0))
  | 0, i => Or.inl (fun k h1 h2 => by omega)
  | d + 1, i => by
    have hp := PR_b hI.1
    unfold lgF
    by_cases c : ptS s i l = -1
    · rw [if_pos c]
      rcases lgF_b hI (l := l) d (i + 1) with h | h
      · left
        intro k h1 h2
        by_cases q : k = i
        · rw [q]; exact c
        · exact h k (by omega) (by omega)
      · exact Or.inr h
    · rw [if_neg c]
      right
      split
      · omega
      · split
        · omega
        · exact modb (by omega)
theorem lg_ok (hI : MI s) {l : Int} (h : 0 < apS s l) : 0 ≤ lgS s l ∧ lgS s l < PR (s 0) := by
  rcases lgF_b hI (l := l) (s 1).toNat 0 with q | q
  · exfalso
    have : apS s l = 0 := sum_z _ (fun i hi => by rw [q i (by omega) (by omega), if_pos rfl])
    omega
  · exact q
theorem W_63 {x1 : Int} (hx : x1 = 0 ∨ x1 = 1) {v : Nat → Int} {N : Nat} (hN : N ≤ 46) (hf : ∀ σ, WV σ s → ∀ i : Nat, i < N → (x1 = 0 → f_Scene_readingOf_scene0 F σ i = some (v i, σ)) ∧ (x1 ≠ 0 → f_Scene_lagOf_scene0 F σ i = some (v i, σ))) : ∀ (d m : Nat) (σ : St) (i : Nat), WV σ s → (∀ j, j < i → gA σ 8 j = v j) → d < m → i + d = N → ∃ σ', l_W_rule_63 F m σ x1 (N : Nat) (i : Nat) = (bnd (f_RuleFinder_find_lattice0 F σ' (N : Nat)) fun r4 σ5 => some ((gF σ5 577), σ5)) ∧ (∀ j, j < N → gA σ' 8 j = v j) ∧ (∀ q, gF σ' q = gF σ q) ∧ ∀ a, a ≠ 8 → ∀ j, gA σ' a j = gA σ a j
  | _, 0, _, _, _, _, h, _ => by omega
  | 0, m + 1, σ, i, hW, h8, _, hi => by
    refine ⟨σ, ?_, fun j hj => h8 j (by omega), fun _ => rfl, fun _ _ _ => rfl⟩
    show b_W_rule_63 F _ σ _ _ _ = _
    unfold b_W_rule_63
    rw [gd_t (by omega), if_pos (by omega)]
  | d + 1, m + 1, σ, i, hW, h8, hm, hi => by
    obtain ⟨f1, f2⟩ := hf σ hW i (by omega)
    obtain ⟨σ', k1, k2, k3, k4⟩ := W_63 hx hN hf d m (sA σ 8 i (v i)) (i + 1) (WV_of hW (fun _ _ => rfl) (fun a h1 h2 j => by rw [gA_sA, if_neg (by omega)])) (fun j hj => by
      rw [gA_sA]
      by_cases q : j = i
      · rw [if_pos ⟨rfl, q⟩, q]
      · rw [if_neg (fun w => q w.2)]; exact h8 j (by omega)) (by omega) (by omega)
    refine ⟨σ', ?_, k2, k3, fun a ha j => by rw [k4 a ha, gA_sA, if_neg (fun w => ha w.1)]⟩
    rw [← k1]
    show b_W_rule_63 F _ σ _ _ _ = _
    unfold b_W_rule_63
    rw [gd_t (by omega), if_neg (by omega), gd_t (by omega), if_neg (by omega), gd_t (by omega)]
    by_cases q : x1 = 0
    · rw [if_pos q, f1 q, bnd_s, gd_t (by omega), bs_s, bv_s, Int.toNat_natCast]; rfl
    · rw [if_neg q, f2 q, bnd_s, gd_t (by omega), bs_s, bv_s, Int.toNat_natCast]; rfl
theorem M_58r {x1 : Int} (hx : x1 = 0 ∨ x1 = 1) {v : Nat → Int} {N : Nat} (hN : N ≤ 46) (hf : ∀ σ, MV σ s → ∀ i : Nat, i < N → (x1 = 0 → f_M_readingOf F σ i = some (v i, σ)) ∧ (x1 ≠ 0 → f_M_lagOf F σ i = some (v i, σ))) : ∀ (d m : Nat) (σ : St) (i : Nat), MV σ s → (∀ j, j < i → gA σ 9 j = v j) → d < m → i + d = N → ∃ σ', l_M_rule_58 F m σ x1 (N : Nat) (i : Nat) = (bnd (f_M_keepRule F σ' (N : Nat)) fun r7 σ8 => gd (isb 1) (bs (sF σ8 34 1) fun σ9 => some ((gF σ9 31), σ9))) ∧ (∀ j, j < N → gA σ' 9 j = v j) ∧ (∀ q, gF σ' q = gF σ q) ∧ ∀ a, a ≠ 9 → ∀ j, gA σ' a j = gA σ a j
  | _, 0, _, _, _, _, h, _ => by omega
  | 0, m + 1, σ, i, hV, h9, _, hi => by
    refine ⟨σ, ?_, fun j hj => h9 j (by omega), fun _ => rfl, fun _ _ _ => rfl⟩
    show b_M_rule_58 F _ σ _ _ _ = _
    unfold b_M_rule_58
    rw [gd_t (by omega), if_pos (by omega)]
  | d + 1, m + 1, σ, i, hV, h9, hm, hi => by
    obtain ⟨f1, f2⟩ := hf σ hV i (by omega)
    obtain ⟨σ', k1, k2, k3, k4⟩ := M_58r hx hN hf d m (sA σ 9 i (v i)) (i + 1) (MV_of hV rfl rfl (fun j => by rw [gA_sA, if_neg (by omega)]) (fun j => by rw [gA_sA, if_neg (by omega)])) (fun j hj => by
      rw [gA_sA]
      by_cases q : j = i
      · rw [if_pos ⟨rfl, q⟩, q]
      · rw [if_neg (fun w => q w.2)]; exact h9 j (by omega)) (by omega) (by omega)
    refine ⟨σ', ?_, k2, k3, fun a ha j => by rw [k4 a ha, gA_sA, if_neg (fun w => ha w.1)]⟩
    rw [← k1]
    show b_M_rule_58 F _ σ _ _ _ = _
    unfold b_M_rule_58
    rw [gd_t (by omega), if_neg (by omega), gd_t (by omega)]
    by_cases q : x1 = 0
    · rw [if_pos q, f1 q, bnd_s, gd_t (by omega), bs_s, bv_s, Int.toNat_natCast]; rfl
    · rw [if_neg q, f2 q, bnd_s, gd_t (by omega), bs_s, bv_s, Int.toNat_natCast]; rfl
theorem rule_fin (hF : 3000 ≤ F) {x : Bool} {σ1 σ2 : St} (hz : RR x σ1 σ2) (hI : MI (svw σ2)) (hW : WV σ1 (svw σ2)) (hV : MV σ2 (svw σ2)) {x1 : Int} (hx : x1 = 0 ∨ x1 = 1) {v : Nat → Int} {N : Nat} (hN : N ≤ 46) (hv : ∀ i, i < N → 0 ≤ v i ∧ v i < PR (svw σ2 0)) (hfW : ∀ σ, WV σ (svw σ2) → ∀ i : Nat, i < N → (x1 = 0 → f_Scene_readingOf_scene0 F σ i = some (v i, σ)) ∧ (x1 ≠ 0 → f_Scene_lagOf_scene0 F σ i = some (v i, σ))) (hfM : ∀ σ, MV σ (svw σ2) → ∀ i : Nat, i < N → (x1 = 0 → f_M_readingOf F σ i = some (v i, σ)) ∧ (x1 ≠ 0 → f_M_lagOf F σ i = some (v i, σ))) : Ev (l_W_rule_63 F F σ1 x1 (N : Nat) 0) fun r1 s1 => Ev (l_M_rule_58 F F σ2 x1 (N : Nat) 0) fun r2 s2 => r1 = r2 ∧ RR x s1 s2 := by
  obtain ⟨t1, a1, a2, a3, a4⟩ := W_63 (F := F) hx hN hfW N F σ1 0 hW (fun j hj => by omega) (by omega) (by omega)
  obtain ⟨t2, b1, b2, b3, b4⟩ := M_58r (F := F) hx hN hfM N F σ2 0 hV (fun j hj => by omega) (by omega) (by omega)
  obtain ⟨k0, u1, u2, c1, c2, c3, c4, c5, c6, c7, c8, c9, d1, d2, d3, d4⟩ := rule_core (F := F) hF hI (σ1 := t1) (σ2 := t2) (WV_of hW (fun q _ => a3 q) (fun a h1 h2 j => a4 a (by omega) j)) (MV_of hV (b3 20) (b3 21) (fun i => b4 2 (by omega) i) (fun i => b4 6 (by omega) i)) hN hv a2 b2
  rw [show l_W_rule_63 F F σ1 x1 (N : Nat) 0 = _ from a1, show l_M_rule_58 F F σ2 x1 (N : Nat) 0 = _ from b1, c2, c3, bnd_s, bnd_s, gd_t (by decide), bs_s]
  refine ev_s (ev_s ⟨by rw [gF_sF, if_neg (by omega), c4, c5], ?_⟩)
  have g := RR_mix (σ1' := u1) (σ2' := sF u2 34 1) (fun q => q == 577 || q == 451 || q == 705) (fun a => a == 10 || a == 12) (fun q => q == 31 || q == 32 || q == 33 || q == 34) (fun a => a == 10 || a == 11) hz (fun q hq hs => by
    rw [d1 q (by intro e; subst e; cases hq) (by intro e; subst e; cases hq) (by intro e; subst e; cases hq)]; exact a3 q) (fun a ha hs i => by
    have h103 : a < 103 := by
      rcases Nat.lt_or_ge a 103 with z | z
      · exact z
      · rw [wSA_hi (by omega)] at hs; cases hs
    rw [d2 a h103 (by intro e; subst e; cases hs) (by intro e; subst e; cases ha) (by intro e; subst e; cases ha)]
    exact a4 a (by intro e; subst e; cases hs) i) (fun q hq hs => by
    rw [gF_sF, if_neg (by intro e; subst e; cases hq), d3 q (by intro e; subst e; cases hs) (by intro e; subst e; cases hs) (by intro e; subst e; cases hs) (by intro e; subst e; cases hq) (by intro e; subst e; cases hq) (by intro e; subst e; cases hq)]
    exact b3 q) (fun a ha hs i => by
    rw [gA_sF, d4 a (by intro e; subst e; cases hs) (by intro e; subst e; cases hs) (by intro e; subst e; cases ha) (by intro e; subst e; cases ha)]
    exact b4 a (by intro e; subst e; cases hs) i)
  have hN2 : RRule u1 (sF u2 34 1) := by
    have e31 : gF (sF u2 34 1) 31 = (k0 : Int) := c5
    refine ⟨⟨by rw [e31, c4], by rw [e31]; omega, by rw [e31]; omega⟩, show isb (1 : Int) by decide, fun h => ?_, fun i hi => c6 i (by rw [e31] at hi; omega), c7, c8, c9⟩
    rw [gF_eq] at h; omega
  exact ⟨g.1, g.2.1, g.2.2.1, g.2.2.2.1, g.2.2.2.2.1, g.2.2.2.2.2.1, g.2.2.2.2.2.2.1, ⟨hN2, g.2.2.2.2.2.2.2.1.2⟩, g.2.2.2.2.2.2.2.2⟩
theorem s_rule (hF : 3000 ≤ F) : Sp_rule F RR := by
  intro x σ1 σ2 p0 hR h0
  obtain ⟨hI, hW, hV⟩ := RR_view hR
  have i1 := hI.2.1
  have w1 := hW.2.1
  refine sp1 ?_
  have hz : RR x σ1 (sF σ2 0 0) := RR_fr hR WFr.rf (MFr.sF rfl MFr.rf)
  have hV0 := MV_0 (v := 0) hV
  have v1 : gA (sF σ2 0 0) 2 (Int.toNat 1) = svw σ2 1 := hV0.1 1
  unfold f_W_rule
  have hM : ∀ Q : Int → St → Prop, Ev (bnd (f_M_isIn F (sF σ2 0 0) p0 0 1) fun r2 σ3 => gd (rng r2) (if r2 = 0 then some ((-1), σ3) else gd (inb 1 82) (gd (rng (gA σ3 2 (Int.toNat 1))) (if (gA σ3 2 (Int.toNat 1)) = 0 then some ((-1), σ3) else gd (rng p0) (if p0 = 0 then bnd (f_M_isEven F σ3) fun r19 σ20 => gd (rng r19) (if r19 = 0 then some ((-1), σ20) else gd (rng p0) (if p0 = 0 then gd (inb 1 82) (bv (gA σ20 2 (Int.toNat 1)) fun x2_24 => l_M_rule_58 F F σ20 p0 x2_24 0) else bnd (f_M_runOf F σ20) fun r21 σ22 => bv (r21 + 1) fun x2_23 => l_M_rule_58 F F σ22 p0 x2_23 0)) else gd (rng p0) (if p0 = 0 then gd (inb 1 82) (bv (gA σ3 2 (Int.toNat 1)) fun x2_18 => l_M_rule_58 F F σ3 p0 x2_18 0) else bnd (f_M_runOf F σ3) fun r4 σ5 => bv (r4 + 1) fun x2_6 => l_M_rule_58 F F σ5 p0 x2_6 0)))))) Q → Ev (f_M_rule F σ2 p0) Q := fun Q h => ev_bs h
  have hMn : (svw σ2 1 = 0 ∨ ¬ (0 ≤ p0 ∧ p0 ≤ 1)) → Ev (f_M_rule F σ2 p0) fun r2 s2 => -1 = r2 ∧ RR x σ1 s2 := fun hc => by
    refine hM _ (ev_isIn (by omega) (fun h => ?_) (fun _ => ?_))
    · refine ev_g (by decide) ?_
      rw [if_neg (by decide)]
      refine ev_g (by decide) (ev_g (by omega) ?_)
      rw [if_pos (by omega)]
      exact ev_s ⟨rfl, hz⟩
    · refine ev_g (by decide) ?_
      rw [if_pos rfl]
      exact ev_s ⟨rfl, hz⟩
  refine ev_g (by omega) ?_
  by_cases c1 : svw σ2 1 = 0
  · rw [if_pos (by omega)]
    exact ev_s (hMn (Or.inl c1))
  · rw [if_neg (by omega)]
    refine ev_g (by omega) ?_
    by_cases c2 : p0 < 0
    · rw [if_pos c2]; exact ev_s (hMn (Or.inr (by omega)))
    · rw [if_neg c2]
      refine ev_g (by omega) ?_
      by_cases c3 : p0 ≤ 1
      · rw [if_pos c3]
        have hM1 : ∀ Q : Int → St → Prop, Ev (gd (rng p0) (if p0 = 0 then bnd (f_M_isEven F (sF σ2 0 0)) fun r19 σ20 => gd (rng r19) (if r19 = 0 then some ((-1), σ20) else gd (rng p0) (if p0 = 0 then gd (inb 1 82) (bv (gA σ20 2 (Int.toNat 1)) fun x2_24 => l_M_rule_58 F F σ20 p0 x2_24 0) else bnd (f_M_runOf F σ20) fun r21 σ22 => bv (r21 + 1) fun x2_23 => l_M_rule_58 F F σ22 p0 x2_23 0)) else gd (rng p0) (if p0 = 0 then gd (inb 1 82) (bv (gA (sF σ2 0 0) 2 (Int.toNat 1)) fun x2_18 => l_M_rule_58 F F (sF σ2 0 0) p0 x2_18 0) else bnd (f_M_runOf F (sF σ2 0 0)) fun r4 σ5 => bv (r4 + 1) fun x2_6 => l_M_rule_58 F F σ5 p0 x2_6 0))) Q → Ev (f_M_rule F σ2 p0) Q := fun Q h => by
          refine hM _ (ev_isIn (by omega) (fun _ => ?_) (fun h => absurd ⟨by omega, by omega⟩ h))
          refine ev_g (by decide) ?_
          rw [if_neg (by decide)]
          refine ev_g (by decide) (ev_g (by omega) ?_)
          rw [if_neg (by omega)]
          exact h
        refine ev_g (by omega) ?_
        by_cases c4 : p0 = 0
        · rw [if_pos c4]
          refine ev_be (W_even (F := F) (by omega) hI hW) ?_
          have hM2 : ∀ Q : Int → St → Prop, Ev (gd (rng (bi (evS (svw σ2)))) (if bi (evS (svw σ2)) = 0 then some ((-1), (sF σ2 0 0)) else l_M_rule_58 F F (sF σ2 0 0) p0 (svw σ2 1) 0)) Q → Ev (f_M_rule F σ2 p0) Q := fun Q h => by
            refine hM1 _ (ev_g (by omega) ?_)
            rw [if_pos c4]
            refine ev_be (M_even (F := F) (by omega) hI hV0) ?_
            rw [if_pos c4, v1, gd_t (show rng p0 by omega), gd_t (show inb 1 82 by decide), bv_s]
            exact h
          cases q : evS (svw σ2) with
          | false =>
            rw [q] at hM2
            refine ev_g (by decide) ?_
            rw [show bi false = 0 from rfl, if_pos rfl]
            refine ev_s (hM2 _ (ev_g (by decide) ?_))
            rw [show bi false = 0 from rfl, if_pos rfl]
            exact ev_s ⟨rfl, hz⟩
          | true =>
            rw [q] at hM2
            refine ev_g (by decide) ?_
            rw [show bi true = 1 from rfl, if_neg (by decide), gd_t (show rng p0 by omega), if_pos c4, bv_s, w1]
            obtain ⟨N, hN⟩ := Int.eq_ofNat_of_zero_le i1.1
            rw [hN]
            refine ev_m (rule_fin (F := F) hF hz hI hW hV0 (x1 := p0) (Or.inl c4) (v := fun i => rdS (svw σ2) i) (N := N) (by omega) (fun i _ => rdS_b hI _) (fun σ h i hi => ⟨fun _ => W_readingOf (by omega) hI h (by omega), fun w => absurd c4 w⟩) (fun σ h i hi => ⟨fun _ => M_readingOf (by omega) hI h (by omega), fun w => absurd c4 w⟩)) (fun r1 s1 h => hM2 _ (ev_g (by decide) ?_))
            rw [show bi true = 1 from rfl, if_neg (by decide), hN]
            exact h
        · rw [if_neg c4]
          refine ev_g (by omega) ?_
          rw [if_neg c4]
          refine ev_be (W_run (F := F) (by omega) hI hW) (ev_bv ?_)
          obtain ⟨r1, r2⟩ := rnF_b (s := svw σ2) 46 0
          obtain ⟨N, hN⟩ := Int.eq_ofNat_of_zero_le (show 0 ≤ rnS (svw σ2) + 1 by unfold rnS; omega)
          have hNb : N ≤ 46 := by unfold rnS at hN; omega
          have hap : ∀ i : Nat, i < N → 0 < apS (svw σ2) i := fun i hi => r2 i (by omega) (by unfold rnS at hN; omega)
          rw [hN]
          refine ev_m (rule_fin (F := F) hF hz hI hW hV0 (x1 := p0) (Or.inr (by omega)) (v := fun i => lgS (svw σ2) i) (N := N) hNb (fun i hi => lg_ok hI (hap i hi)) (fun σ h i hi => ⟨fun w => absurd w c4, fun _ => W_lagOf (by omega) hI h (by omega)⟩) (fun σ h i hi => ⟨fun w => absurd w c4, fun _ => M_lagOf (by omega) hI h (by omega)⟩)) (fun r1 s1 h => hM1 _ (ev_g (by omega) ?_))
          rw [if_neg c4]
          refine ev_g (by omega) ?_
          rw [if_neg c4]
          refine ev_be (M_runOf (F := F) (by omega) hI hV0) (ev_bv ?_)
          rw [hN]
          exact h
      · rw [if_neg c3]
        exact ev_s (hMn (Or.inr (by omega)))
end
