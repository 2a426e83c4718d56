/-! PURE PART: field -/
section
variable {F : Nat}
theorem reS_gF {s : St} {q : Nat} (h : q / 64 < 23 ∨ 83 ≤ q / 64 ∨ (23 ≤ q / 64 ∧ q / 64 < 83 ∧ 2 ≤ (q / 64 - 23) % 4)) : gF (reS swR s) q = gF s q := by
  have e : swR (q / 64) = q / 64 := by
    unfold swR
    by_cases c : 23 ≤ q / 64 ∧ q / 64 < 83
    · rw [if_pos c, if_neg (by omega), if_neg (by omega)]
    · rw [if_neg c]
  show gF s (64 * swR (q / 64) + q % 64) = _
  rw [e, Nat.div_add_mod]
theorem reS_gA {s : St} {a i : Nat} (h : a < 23 ∨ 83 ≤ a ∨ (23 ≤ a ∧ a < 83 ∧ 2 ≤ (a - 23) % 4)) : gA (reS swR s) a i = gA s a i := by
  have e : swR a = a := by
    unfold swR
    by_cases c : 23 ≤ a ∧ a < 83
    · rw [if_pos c, if_neg (by omega), if_neg (by omega)]
    · rw [if_neg c]
  show gA s (swR a) i = _
  rw [e]
theorem s_field (hF : 2000 ≤ F) : Sp_field F RR := by
  intro x σ1 σ2 hR
  obtain ⟨⟨t1, t2, t3, t4⟩, hfa, hSC, hRM, ⟨mm, hmm, hLd⟩, hI0, hI1, hTo, hRe⟩ := id hR
  obtain ⟨L, eL⟩ := Int.eq_ofNat_of_zero_le t2
  have hL : L ≤ 940 := by omega
  have hb0 : ∀ i, i < 940 → 0 ≤ (fun i => gA σ2 1 i % 256) i ∧ (fun i => gA σ2 1 i % 256) i ≤ 255 := fun i _ => by
    show 0 ≤ gA σ2 1 i % 256 ∧ gA σ2 1 i % 256 ≤ 255
    omega
  -- where both begin
  obtain ⟨c0, hc0⟩ : ∃ c0, c0 = sF (sF (sF (sF (sF (sF (sF (sF (sF (sF σ1 195 (L : Nat)) 5122 0) 5123 0) 5126 0) 2048 0) 2051 0) 193 0) 201 12) 202 0) 196 0 := ⟨_, rfl⟩
  obtain ⟨m0, hm0⟩ : ∃ m0, m0 = sF (sF (sF (sF (sF (sF (sF (sF σ2 0 0) 3 (L : Nat)) 2 0) 4 0) 5 900) 14 0) 18 0) 19 0 := ⟨_, rfl⟩
  obtain ⟨m1, k1, k2, k3, k4⟩ := M_f29 (F := F) 82 F m0 0 (by omega) (by omega) (fun i h => by omega)
  have ec0 : f_Reader_readInto_scene1 F σ1 = bnd (f_Reader_advance F c0) fun r8 σ9 => l_Reader_readInto_scene1_47 F F σ9 0 := by
    unfold f_Reader_readInto_scene1 f_Scene_clear_scene1
    rw [t1, eL, bs_s, bs_s, bs_s, bs_s, bs_s, bs_s, bnd_s, bs_s, bs_s, gd_t (by decide), bs_s, bs_s, hc0]
  have em0 : f_M_field F σ2 = bnd (f_M_next F (sA m1 3 0 12)) fun r8 σ9 => l_M_field_60 F F σ9 := by
    unfold f_M_field f_M_taken
    rw [bs_s, show gF (sF σ2 0 0) 2 = (L : Int) from eL, bs_s, bs_s, bs_s, bs_s, bnd_s, bs_s, bs_s, gd_t (by decide), bs_s, ← hm0]
    exact k1
  have cF : ∀ q, q ≠ 195 → q ≠ 5122 → q ≠ 5123 → q ≠ 5126 → q ≠ 2048 → q ≠ 2051 → q ≠ 193 → q ≠ 201 → q ≠ 202 → q ≠ 196 → gF c0 q = gF σ1 q := fun q h1 h2 h3 h4 h5 h6 h7 h8 h9 h10 => by
    rw [hc0, gF_sF, if_neg h10, gF_sF, if_neg h9, gF_sF, if_neg h8, gF_sF, if_neg h7, gF_sF, if_neg h6, gF_sF, if_neg h5, gF_sF, if_neg h4, gF_sF, if_neg h3, gF_sF, if_neg h2, gF_sF, if_neg h1]
  have cA : ∀ a i, gA c0 a i = gA σ1 a i := fun a i => by rw [hc0]; rfl
  have mF : ∀ q, q ≠ 0 → q ≠ 2 → q ≠ 3 → q ≠ 4 → q ≠ 5 → q ≠ 14 → q ≠ 18 → q ≠ 19 → gF m1 q = gF σ2 q := fun q h1 h2 h3 h4 h5 h6 h7 h8 => by
    rw [k3, hm0, gF_sF, if_neg h8, gF_sF, if_neg h7, gF_sF, if_neg h6, gF_sF, if_neg h5, gF_sF, if_neg h4, gF_sF, if_neg h2, gF_sF, if_neg h3, gF_sF, if_neg h1]
  have mA : ∀ a, a ≠ 3 → ∀ i, gA m1 a i = gA σ2 a i := fun a ha i => by rw [k4 a ha, hm0]; rfl
  have hm3 : gF m1 3 = (L : Nat) := by rw [k3, hm0]; rfl
  have hm5 : gF m1 5 = 900 := by rw [k3, hm0]; rfl
  have hm4 : gF m1 4 = 0 := by rw [k3, hm0]; rfl
  have hT0 : TBt L (fun i => gA σ2 1 i % 256) c0 (sA m1 3 0 12) := ⟨fun i hi => ⟨by rw [cA]; exact t4 i hi, by rw [gA_sA, if_neg (by omega), mA 1 (by omega)]⟩, by rw [hc0]; rfl, hm3, hm5⟩
  have hD0 : DRd c0 (sA m1 3 0 12) := by
    have z : ∀ i, i < 82 → i ≠ 0 → gA (sA m1 3 0 12) 3 i = 0 := fun i hi h0 => by rw [gA_sA, if_neg (fun y => h0 y.2)]; exact k2 i hi
    have z0 : gA (sA m1 3 0 12) 3 0 = 12 := by rw [gA_sA, if_pos ⟨rfl, rfl⟩]
    unfold DRd
    rw [z 1 (by omega) (by omega), z 2 (by omega) (by omega), z 3 (by omega) (by omega), z 4 (by omega) (by omega), z 5 (by omega) (by omega), z0]
    refine ⟨⟨by decide, by rw [hc0]; rfl⟩, ⟨by rw [hc0]; rfl, by omega, by omega⟩, ⟨by rw [hc0]; rfl, by omega, by omega⟩, ⟨by rw [hc0]; rfl, by omega, by omega⟩, ⟨by rw [hc0]; rfl, by omega, by omega⟩, ⟨by rw [hc0]; rfl, rfl⟩, fun h hh => by omega, fun i j hij hj => by omega, fun s hs => by omega, fun t ht => by omega, fun b hb => by omega, fun i hi => by omega, fun i hi => by omega, ?_, ?_⟩
    · show gF c0 202 = gF m1 19
      rw [hc0, k3, hm0]; rfl
    · show isb (gF m1 19)
      rw [k3, hm0]; exact Or.inl rfl
  obtain ⟨u1, u2, a1, a2, a4, a5, a6⟩ := ADV (F := F) hF hL hb0 (i := 0) (by omega) hT0 (by rw [hc0]; rfl) hm4
  have a3 := TBt_t hT0 a5 a6
  have hD1 := DRd_t hD0 a5 a6
  have hR1 : RRes u2 := by
    unfold RRes
    simp only [a6.2]
    show RRes (sA m1 3 0 12)
    unfold RRes
    simp only [gA_sA, if_neg (show ¬ (5 = 3 ∧ _) from fun y => absurd y.1 (by decide)), mA 5 (by omega)]
    exact hRe
  have hcn : CNc u1 = 0 := by
    unfold CNc
    rw [a5.f (by omega), a5.f (by omega), a5.f (by omega), a5.f (by omega), a5.f (by omega), hc0]; rfl
  obtain ⟨s1, s2, f1, f2, hres⟩ := FLD (F := F) hF hL hb0 30 F F u1 u2 0 (by omega) (by omega) (by omega) (by omega) hR1 a3 a4 hD1 (by
    rw [a6.f (by omega)]
    show gF m1 18 = _
    rw [k3, hm0]; rfl)
  -- what both leave as it was
  have wF : ∀ q, q ≠ 65 → fpF q = false → gF s1 q = gF σ1 q := fun q h65 hq => by
    have n : ∀ r, fpF r = true → q ≠ r := fun r hr e => by rw [e, hr] at hq; cases hq
    rw [f1.1 q hq, a5.P.1 q hq]
    exact cF q (n _ rfl) (n _ rfl) (n _ rfl) (n _ rfl) (n _ rfl) (n _ rfl) (n _ rfl) (n _ rfl) (n _ rfl) (n _ rfl)
  have wA : ∀ a, dAr a = false → ∀ i, gA s1 a i = gA σ1 a i := fun a ha i => by rw [f1.2 a ha, a5.2, cA]
  have vF : ∀ q, fqF q = false → q ≠ 0 → q ≠ 2 → q ≠ 3 → q ≠ 5 → q ≠ 18 → gF s2 q = gF σ2 q := fun q hq h0 h2 h3 h5 h8 => by
    have n : ∀ r, fqF r = true → q ≠ r := fun r hr e => by rw [e, hr] at hq; cases hq
    rw [f2.1 q hq h8, a6.Q.1 q hq]
    exact mF q h0 h2 h3 (n _ rfl) h5 (n _ rfl) h8 (n _ rfl)
  have vA : ∀ a, a ≠ 3 → a ≠ 4 → ∀ i, gA s2 a i = gA σ2 a i := fun a h3 h4 i => by
    rw [f2.2 a h3 h4, a6.2, gA_sA, if_neg (fun y => h3 y.1), mA a h3]
  have v2 : gF s2 2 = 0 := by
    rw [f2.1 2 rfl (by omega), a6.Q.1 2 rfl]
    show gF m1 2 = 0
    rw [k3, hm0]; rfl
  have ecl : f_W_field F σ1 = bnd (l_Reader_readInto_scene1_47 F F u1 0) fun r1 σ2 => bs (sF σ2 65 0) fun σ3 => gd (rng r1 ∧ rng (-1)) (if r1 = (-1) then some (((-1) - (gF σ3 192)), σ3) else bs (reS swR σ3) fun σ4 => some (r1, σ4)) := by
    unfold f_W_field
    rw [ec0, a1, bnd_s]
  have eml : f_M_field F σ2 = l_M_field_60 F F u2 := by rw [em0, a2, bnd_s]
  rcases hres with ⟨e1, e2, e3⟩ | ⟨n', i0, e1, e2, e3, e4, e5, e6, e7, e8⟩
  · obtain ⟨h193, h192, h15a, h15b⟩ := e3
    refine ⟨-1 - gF s2 15, sF s1 65 0, s2, ?_, ?_, ?_⟩
    · rw [ecl, show l_Reader_readInto_scene1_47 F F u1 0 = some (-1, s1) from e1, bnd_s, bs_s, gd_t (by decide), if_pos rfl, gF_sF, if_neg (by omega), h192]
    · rw [eml, e2]
    · have sc : ∀ k a o, (k = 0 ∨ k = 2 ∨ k = 3) → a ≠ 3 → a ≠ 4 → SC σ1 σ2 k a o → SC (sF s1 65 0) s2 k a o := fun k a o hk h3 h4 h => by
        refine SC_fr h (fun q hq => ?_) (fun c hc i => ?_) (fun i _ _ => vA a h3 h4 i)
        · have n65 : q ≠ 65 := by unfold scF at hq; omega
          rw [gF_sF, if_neg n65]
          refine wF q n65 ?_
          rcases hk with rfl | rfl | rfl <;> rcases hq with rfl | rfl | rfl | rfl | rfl | rfl | rfl | rfl <;> rfl
        · show gA s1 c i = _
          refine wA c ?_ i
          rcases hk with rfl | rfl | rfl <;> rcases hc with rfl | rfl | rfl | rfl | rfl | rfl | rfl | rfl | rfl | rfl | rfl | rfl <;> rfl
      refine ⟨⟨by rw [gF_eq, v2], by rw [v2]; omega, by rw [v2]; omega, fun i hi => ?_⟩, ?_, sc 0 2 0 (Or.inl rfl) (by omega) (by omega) hSC, ?_, ⟨mm, hmm, ?_⟩, ?_, ?_, ?_, ?_⟩
      · show gA s1 2 i = _
        rw [wA 2 rfl, vA 1 (by omega) (by omega)]; exact t4 i hi
      · rw [gF_sF, if_neg (by omega)]; exact h193
      · unfold RM at hRM ⊢
        rw [vF 20 rfl (by omega) (by omega) (by omega) (by omega) (by omega), vF 21 rfl (by omega) (by omega) (by omega) (by omega) (by omega)]
        simp only [vA 2 (by omega) (by omega), vA 6 (by omega) (by omega)]
        exact hRM
      · unfold LatW at hLd ⊢
        rw [gF_sF, if_neg (by omega), gF_sF, if_neg (by omega), gF_sF, if_neg (by omega), wF (1472 + 64 * 1) (by omega) rfl, wF (1473 + 64 * 1) (by omega) rfl, wF (1474 + 64 * 1) (by omega) rfl]
        simp only [gA_sF, wA (27 + 1) rfl]
        exact hLd
      · refine ⟨?_, ?_, fun h => sc 2 22 0 (Or.inr (Or.inl rfl)) (by omega) (by omega) (hI0.2.2 ?_)⟩
        · show gA s1 84 0 = _
          rw [wA 84 rfl, vA 23 (by omega) (by omega)]; exact hI0.1
        · rw [vA 23 (by omega) (by omega)]; exact hI0.2.1
        · rw [vA 23 (by omega) (by omega)] at h; exact h
      · refine ⟨?_, ?_, fun h => sc 3 22 82 (Or.inr (Or.inr rfl)) (by omega) (by omega) (hI1.2.2 ?_)⟩
        · show gA s1 84 1 = _
          rw [wA 84 rfl, vA 23 (by omega) (by omega)]; exact hI1.1
        · rw [vA 23 (by omega) (by omega)]; exact hI1.2.1
        · rw [vA 23 (by omega) (by omega)] at h; exact h
      · have gF' : ∀ q, q ≠ 65 → fpF q = false → gF (sF s1 65 0) q = gF σ1 q := fun q h65 hq => by rw [gF_sF, if_neg h65]; exact wF q h65 hq
        have gA' : ∀ a, dAr a = false → ∀ i, gA (sF s1 65 0) a i = gA σ1 a i := fun a ha i => wA a ha i
        unfold RTold RRule RTrack RMake RLiar RNull RFix at hTo ⊢
        rw [gF' 577 (by omega) rfl, gF' 451 (by omega) rfl, gF' 705 (by omega) rfl, gF' 833 (by omega) rfl, gF' 961 (by omega) rfl, gF' 1089 (by omega) rfl, gF' 14 (by omega) rfl, gF' 1217 (by omega) rfl, gF' 16 (by omega) rfl, gF' 1345 (by omega) rfl, gF' 5697 (by omega) rfl]
        rw [vF 31 rfl (by omega) (by omega) (by omega) (by omega) (by omega), vF 32 rfl (by omega) (by omega) (by omega) (by omega) (by omega), vF 33 rfl (by omega) (by omega) (by omega) (by omega) (by omega), vF 34 rfl (by omega) (by omega) (by omega) (by omega) (by omega), vF 37 rfl (by omega) (by omega) (by omega) (by omega) (by omega), vF 41 rfl (by omega) (by omega) (by omega) (by omega) (by omega), vF 42 rfl (by omega) (by omega) (by omega) (by omega) (by omega), vF 43 rfl (by omega) (by omega) (by omega) (by omega) (by omega), vF 44 rfl (by omega) (by omega) (by omega) (by omega) (by omega), vF 45 rfl (by omega) (by omega) (by omega) (by omega) (by omega), vF 47 rfl (by omega) (by omega) (by omega) (by omega) (by omega), vF 56 rfl (by omega) (by omega) (by omega) (by omega) (by omega)]
        simp only [gA' 10 rfl, gA' 12 rfl, gA' 14 rfl, gA' 16 rfl, gA' 18 rfl, gA' 20 rfl, gA' 22 rfl, gA' 90 rfl, vA 10 (by omega) (by omega), vA 11 (by omega) (by omega), vA 13 (by omega) (by omega), vA 15 (by omega) (by omega), vA 16 (by omega) (by omega), vA 17 (by omega) (by omega), vA 21 (by omega) (by omega)]
        exact hTo
      · unfold RRes
        simp only [vA 5 (by omega) (by omega)]
        exact hRe
  · have hw := e6.1.1
    have h201 := e6.1.2
    have hLs : LatW s1 1 mm := by
      unfold LatW at hLd ⊢
      rw [wF (1472 + 64 * 1) (by omega) rfl, wF (1473 + 64 * 1) (by omega) rfl, wF (1474 + 64 * 1) (by omega) rfl]
      simp only [wA (27 + 1) rfl]
      exact hLd
    obtain ⟨r, p1, g1, g2, g3, g4⟩ := W_spread (F := F) hF hw hmm hLs
    obtain ⟨t, j1, j2, j3, j4⟩ := M_f105 (F := F) 82 F s2 0 (by omega) (by omega) (fun i h => by omega)
    obtain ⟨t', l1, l2, l3⟩ := M_f131 (F := F) 10 F t 0 (by omega) (by omega)
    have hs2 : gA t' 2 0 = gA s2 3 0 := by rw [l3 2 (by omega), j2 0 (by omega)]
    obtain ⟨T2, o1, o2, o3, o4, o5, o6⟩ := M_settle (F := F) hF hw hs2
    have nF : ∀ q, q ≠ 20 → q ≠ 21 → gF T2 q = gF s2 q := fun q h0 h1 => by rw [o5 q h0 h1, l2, j3]
    have nA : ∀ a, a ≠ 2 → a ≠ 4 → a ≠ 6 → ∀ i, gA T2 a i = gA s2 a i := fun a h2 h4 h6 i => by rw [o6 a h6, l3 a h4, j4 a h2]
    have M : ∀ i, i < 82 → gA T2 2 i = gA s2 3 i := fun i hi => by rw [o6 2 (by omega), l3 2 (by omega), j2 i hi]
    obtain ⟨T1, hT1⟩ : ∃ T1, T1 = reS swR (sF p1 65 0) := ⟨_, rfl⟩
    have hre : f_Reader_readToEnd_scene1 F s1 = some (1, p1) := by
      unfold f_Reader_readToEnd_scene1
      rw [e4.2.1, gd_t (by omega), if_pos (by omega), h201, g1, bnd_s]
    refine ⟨(n' : Nat), T1, T2, ?_, ?_, ?_⟩
    · rw [ecl, show l_Reader_readInto_scene1_47 F F u1 0 = _ from e1, hre, bnd_s, gd_t (by decide), if_neg (by decide), bnd_s, bs_s, gd_t (by omega), if_neg (by omega), bs_s, hT1]
    · rw [eml, e2, show l_M_field_105 F F s2 0 = l_M_field_131 F F t 0 from j1, show l_M_field_131 F F t 0 = _ from l1, o1, bnd_s, nF 18 (by omega) (by omega), e3]
    · -- the class's cells, as they are now
      have PF : ∀ q, q ≠ 1536 → q ≠ 1537 → q ≠ 1538 → q ≠ 65 → gF (sF p1 65 0) q = gF s1 q := fun q h1 h2 h3 h65 => by rw [gF_sF, if_neg h65, g3 q h1 h2 h3]
      have PA : ∀ a, a ≠ 28 → ∀ i, gA (sF p1 65 0) a i = gA s1 a i := fun a ha i => g4 a ha i
      -- what isn't of the two scenes
      have QF : ∀ q, q ≠ 65 → fpF q = false → (q / 64 < 23 ∨ 83 ≤ q / 64 ∨ (23 ≤ q / 64 ∧ q / 64 < 83 ∧ 2 ≤ (q / 64 - 23) % 4)) → gF T1 q = gF σ1 q := fun q h65 hq hd => by
        rw [hT1, reS_gF hd, PF q (fun e => by subst e; omega) (fun e => by subst e; omega) (fun e => by subst e; omega) h65, wF q h65 hq]
      have QA : ∀ a, dAr a = false → (a < 23 ∨ 83 ≤ a ∨ (23 ≤ a ∧ a < 83 ∧ 2 ≤ (a - 23) % 4)) → ∀ i, gA T1 a i = gA σ1 a i := fun a ha hd i => by
        rw [hT1, reS_gA hd, PA a (by omega), wA a ha]
      have vF' : ∀ q, fqF q = false → q ≠ 0 → q ≠ 2 → q ≠ 3 → q ≠ 5 → q ≠ 18 → q ≠ 20 → q ≠ 21 → gF T2 q = gF σ2 q := fun q hq h0 h2 h3 h5 h8 h20 h21 => by rw [nF q h20 h21, vF q hq h0 h2 h3 h5 h8]
      have vA' : ∀ a, a ≠ 2 → a ≠ 3 → a ≠ 4 → a ≠ 6 → ∀ i, gA T2 a i = gA σ2 a i := fun a h2 h3 h4 h6 i => by rw [nA a h2 h4 h6, vA a h3 h4]
      have sc : ∀ k o, (k = 2 ∨ k = 3) → SC σ1 σ2 k 22 o → SC T1 T2 k 22 o := fun k o hk h => by
        refine SC_fr h (fun q hq => ?_) (fun c hc i => ?_) (fun i _ _ => vA' 22 (by omega) (by omega) (by omega) (by omega) i)
        · rcases hk with rfl | rfl <;> rcases hq with rfl | rfl | rfl | rfl | rfl | rfl | rfl | rfl <;> exact QF _ (by omega) rfl (by omega)
        · rcases hk with rfl | rfl <;> rcases hc with rfl | rfl | rfl | rfl | rfl | rfl | rfl | rfl | rfl | rfl | rfl | rfl <;> exact QA _ rfl (by omega) i
      have T2a : gF T2 2 = 0 := by rw [nF 2 (by omega) (by omega), v2]
      have h193 : gF T1 193 = gF T2 14 := by
        rw [hT1, reS_gF (by omega), PF 193 (by omega) (by omega) (by omega) (by omega), e7, nF 14 (by omega) (by omega), e8, a5.f (by omega), a6.f (by omega)]
        show gF c0 193 = gF m1 14
        rw [hc0, k3, hm0]; rfl
      obtain ⟨d0, d1, d2, d3, d4, d5, d6, d7, d8, d9, d10, -⟩ := e6
      have F0 : gF T1 (1472 + 64 * 0) = gF p1 1536 := by rw [hT1]; rfl
      have F1 : gF T1 (1473 + 64 * 0) = gF p1 1537 := by rw [hT1]; rfl
      have F2 : gF T1 (1474 + 64 * 0) = gF p1 1538 := by rw [hT1]; rfl
      have A27 : ∀ i, gA T1 (27 + 0) i = gA p1 28 i := fun i => by rw [hT1]; rfl
      have S3 : gF T1 (5059 + 64 * 0) = gF s1 5123 := by rw [hT1]; exact PF 5123 (by omega) (by omega) (by omega) (by omega)
      have S4 : gF T1 (5062 + 64 * 0) = gF s1 5126 := by rw [hT1]; exact PF 5126 (by omega) (by omega) (by omega) (by omega)
      have S5 : gF T1 (1984 + 64 * 0) = gF s1 2048 := by rw [hT1]; exact PF 2048 (by omega) (by omega) (by omega) (by omega)
      have S6 : gF T1 (1987 + 64 * 0) = gF s1 2051 := by rw [hT1]; exact PF 2051 (by omega) (by omega) (by omega) (by omega)
      have S7 : gF T1 (5058 + 64 * 0) = gF s1 5122 := by rw [hT1]; exact PF 5122 (by omega) (by omega) (by omega) (by omega)
      have B : ∀ a i, (a = 55 ∨ a = 59 ∨ a = 63 ∨ a = 67 ∨ a = 71 ∨ a = 75 ∨ a = 35 ∨ a = 39 ∨ a = 43 ∨ a = 47 ∨ a = 51) → gA T1 (a + 0) i = gA s1 (a + 1) i := fun a i ha => by
        rw [hT1]
        rcases ha with rfl | rfl | rfl | rfl | rfl | rfl | rfl | rfl | rfl | rfl | rfl
        · exact PA 56 (by omega) i
        · exact PA 60 (by omega) i
        · exact PA 64 (by omega) i
        · exact PA 68 (by omega) i
        · exact PA 72 (by omega) i
        · exact PA 76 (by omega) i
        · exact PA 36 (by omega) i
        · exact PA 40 (by omega) i
        · exact PA 44 (by omega) i
        · exact PA 48 (by omega) i
        · exact PA 52 (by omega) i
      have hp := PR_b hw
      refine ⟨⟨by rw [hT1, reS_gF (by omega), gF_eq, T2a], by rw [T2a]; omega, by rw [T2a]; omega, fun i hi => ?_⟩, h193, ?_, ?_, ⟨gA σ2 2 0, hSC.1.1, ?_⟩, ?_, ?_, ?_, ?_⟩
      · rw [QA 2 rfl (by omega), vA' 1 (by omega) (by omega) (by omega) (by omega)]; exact t4 i hi
      · unfold SC LatW
        rw [M 0 (by omega), M (0 + 1) (by omega), M (0 + 2) (by omega), M (0 + 3) (by omega), M (0 + 4) (by omega), M (0 + 5) (by omega), F0, F1, F2, S3, S4, S5, S6, S7]
        simp only [A27, B 55 _ (by omega), B 59 _ (by omega), B 63 _ (by omega), B 67 _ (by omega), B 71 _ (by omega), B 75 _ (by omega), B 35 _ (by omega), B 39 _ (by omega), B 43 _ (by omega), B 47 _ (by omega), B 51 _ (by omega)]
        refine ⟨⟨hw, g2⟩, d1, d2, d3, d4, ⟨d5.1.trans d5.2.symm, by show 0 ≤ gA s2 3 5; rw [d5.2]; omega, by show gA s2 3 5 ≤ 999; rw [d5.2]; omega⟩, fun h hh => ?_, fun i j hij hj => ?_, fun s hs => ?_, fun t ht => ?_, fun b hb => ?_⟩
        · have hh' : (h : Int) < gA s2 3 1 := hh
          rw [M _ (by omega), M _ (by omega), show 0 + 6 + 2 * h = 6 + 2 * h by omega, show 0 + 7 + 2 * h = 7 + 2 * h by omega]
          have := d6 h hh'
          exact ⟨this.1, this.2.1, this.2.2.1, this.2.2.2.1, by omega⟩
        · have hj' : (j : Int) < gA s2 3 1 := hj
          rw [M _ (by omega), M _ (by omega), show 0 + 6 + 2 * i = 6 + 2 * i by omega, show 0 + 6 + 2 * j = 6 + 2 * j by omega]
          exact d7 i j hij hj'
        · have hs' : (s : Int) < gA s2 3 2 := hs
          rw [M (0 + 26 + 4 * s) (by omega), M (0 + 27 + 4 * s) (by omega), M (0 + 28 + 4 * s) (by omega), M (0 + 29 + 4 * s) (by omega), show 0 + 26 + 4 * s = 26 + 4 * s by omega, show 0 + 27 + 4 * s = 27 + 4 * s by omega, show 0 + 28 + 4 * s = 28 + 4 * s by omega, show 0 + 29 + 4 * s = 29 + 4 * s by omega]
          exact d8 s hs'
        · have ht' : (t : Int) < gA s2 3 3 := ht
          rw [M (0 + 50 + 2 * t) (by omega), M (0 + 51 + 2 * t) (by omega), show 0 + 50 + 2 * t = 50 + 2 * t by omega, show 0 + 51 + 2 * t = 51 + 2 * t by omega]
          exact d9 t ht'
        · have hb' : (b : Int) < gA s2 3 4 := hb
          rw [M (0 + 58 + 3 * b) (by omega), M (0 + 59 + 3 * b) (by omega), M (0 + 60 + 3 * b) (by omega), show 0 + 58 + 3 * b = 58 + 3 * b by omega, show 0 + 59 + 3 * b = 59 + 3 * b by omega, show 0 + 60 + 3 * b = 60 + 3 * b by omega]
          exact d10 b hb'
      · unfold RM
        rw [M 0 (by omega)]
        exact ⟨o2, o3, o4⟩
      · have l0 := hSC.1.2
        unfold LatW at l0 ⊢
        have e0 : gF T1 (1472 + 64 * 1) = gF σ1 1472 := by
          rw [hT1]
          show gF (sF p1 65 0) 1472 = _
          rw [PF 1472 (by omega) (by omega) (by omega) (by omega), wF 1472 (by omega) rfl]
        have e1 : gF T1 (1473 + 64 * 1) = gF σ1 1473 := by
          rw [hT1]
          show gF (sF p1 65 0) 1473 = _
          rw [PF 1473 (by omega) (by omega) (by omega) (by omega), wF 1473 (by omega) rfl]
        have e2 : gF T1 (1474 + 64 * 1) = gF σ1 1474 := by
          rw [hT1]
          show gF (sF p1 65 0) 1474 = _
          rw [PF 1474 (by omega) (by omega) (by omega) (by omega), wF 1474 (by omega) rfl]
        have e3 : ∀ i, gA T1 (27 + 1) i = gA σ1 27 i := fun i => by
          rw [hT1]
          show gA (sF p1 65 0) 27 i = _
          rw [PA 27 (by omega), wA 27 rfl]
        rw [e0, e1, e2]
        simp only [e3]
        exact l0
      · refine ⟨?_, ?_, fun h => sc 2 0 (Or.inl rfl) (hI0.2.2 ?_)⟩
        · rw [QA 84 rfl (by omega), vA' 23 (by omega) (by omega) (by omega) (by omega)]; exact hI0.1
        · rw [vA' 23 (by omega) (by omega) (by omega) (by omega)]; exact hI0.2.1
        · rw [vA' 23 (by omega) (by omega) (by omega) (by omega)] at h; exact h
      · refine ⟨?_, ?_, fun h => sc 3 82 (Or.inr rfl) (hI1.2.2 ?_)⟩
        · rw [QA 84 rfl (by omega), vA' 23 (by omega) (by omega) (by omega) (by omega)]; exact hI1.1
        · rw [vA' 23 (by omega) (by omega) (by omega) (by omega)]; exact hI1.2.1
        · rw [vA' 23 (by omega) (by omega) (by omega) (by omega)] at h; exact h
      · have gF' : ∀ q, q ≠ 65 → fpF q = false → (q / 64 < 23 ∨ 83 ≤ q / 64) → gF T1 q = gF σ1 q := fun q h65 hq hd => QF q h65 hq (by omega)
        have gA' : ∀ a, dAr a = false → (a < 23 ∨ 83 ≤ a) → ∀ i, gA T1 a i = gA σ1 a i := fun a ha hd i => QA a ha (by omega) i
        unfold RTold RRule RTrack RMake RLiar RNull RFix at hTo ⊢
        rw [gF' 577 (by omega) rfl (by omega), gF' 451 (by omega) rfl (by omega), gF' 705 (by omega) rfl (by omega), gF' 833 (by omega) rfl (by omega), gF' 961 (by omega) rfl (by omega), gF' 1089 (by omega) rfl (by omega), gF' 14 (by omega) rfl (by omega), gF' 1217 (by omega) rfl (by omega), gF' 16 (by omega) rfl (by omega), gF' 1345 (by omega) rfl (by omega), gF' 5697 (by omega) rfl (by omega)]
        rw [vF' 31 rfl (by omega) (by omega) (by omega) (by omega) (by omega) (by omega) (by omega), vF' 32 rfl (by omega) (by omega) (by omega) (by omega) (by omega) (by omega) (by omega), vF' 33 rfl (by omega) (by omega) (by omega) (by omega) (by omega) (by omega) (by omega), vF' 34 rfl (by omega) (by omega) (by omega) (by omega) (by omega) (by omega) (by omega), vF' 37 rfl (by omega) (by omega) (by omega) (by omega) (by omega) (by omega) (by omega), vF' 41 rfl (by omega) (by omega) (by omega) (by omega) (by omega) (by omega) (by omega), vF' 42 rfl (by omega) (by omega) (by omega) (by omega) (by omega) (by omega) (by omega), vF' 43 rfl (by omega) (by omega) (by omega) (by omega) (by omega) (by omega) (by omega), vF' 44 rfl (by omega) (by omega) (by omega) (by omega) (by omega) (by omega) (by omega), vF' 45 rfl (by omega) (by omega) (by omega) (by omega) (by omega) (by omega) (by omega), vF' 47 rfl (by omega) (by omega) (by omega) (by omega) (by omega) (by omega) (by omega), vF' 56 rfl (by omega) (by omega) (by omega) (by omega) (by omega) (by omega) (by omega)]
        simp only [gA' 10 rfl (by omega), gA' 12 rfl (by omega), gA' 14 rfl (by omega), gA' 16 rfl (by omega), gA' 18 rfl (by omega), gA' 20 rfl (by omega), gA' 22 rfl (by omega), gA' 90 rfl (by omega), vA' 10 (by omega) (by omega) (by omega) (by omega), vA' 11 (by omega) (by omega) (by omega) (by omega), vA' 13 (by omega) (by omega) (by omega) (by omega), vA' 15 (by omega) (by omega) (by omega) (by omega), vA' 16 (by omega) (by omega) (by omega) (by omega), vA' 17 (by omega) (by omega) (by omega) (by omega), vA' 21 (by omega) (by omega) (by omega) (by omega)]
        exact hTo
      · unfold RRes
        simp only [vA' 5 (by omega) (by omega) (by omega) (by omega)]
        exact hRe
end
