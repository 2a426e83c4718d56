/-! PURE PART: both find one rule -/
section
variable {F : Nat} {s : Nat → Int}
theorem WV_of {σ σ' : St} (h : WV σ s) (hf : ∀ q, 1000 ≤ q → gF σ' q = gF σ q) (ha : ∀ a, 27 ≤ a → a ≤ 75 → ∀ i, gA σ' a i = gA σ a i) : WV σ' s := by
  unfold WV at h ⊢
  rw [hf 1472 (by omega), hf 1473 (by omega), hf 1474 (by omega), hf 5059 (by omega), hf 5062 (by omega), hf 1984 (by omega), hf 1987 (by omega), hf 5058 (by omega)]
  simp only [ha 27 (by omega) (by omega), ha 55 (by omega) (by omega), ha 59 (by omega) (by omega), ha 63 (by omega) (by omega), ha 67 (by omega) (by omega), ha 71 (by omega) (by omega), ha 75 (by omega) (by omega), ha 35 (by omega) (by omega), ha 39 (by omega) (by omega), ha 43 (by omega) (by omega), ha 47 (by omega) (by omega), ha 51 (by omega) (by omega)]
  exact h
theorem MV_of {σ σ' : St} (h : MV σ s) (h20 : gF σ' 20 = gF σ 20) (h21 : gF σ' 21 = gF σ 21) (h2 : ∀ i, gA σ' 2 i = gA σ 2 i) (h6 : ∀ i, gA σ' 6 i = gA σ 6 i) : MV σ' s := by
  unfold MV at h ⊢
  rw [h20, h21]
  simp only [h2, h6]
  exact h
theorem rule_core (hF : 3000 ≤ F) (hI : MI s) {σ1 σ2 : St} (hW : WV σ1 s) (hV : MV σ2 s) {v : Nat → Int} {N : Nat} (hN : N ≤ 46) (hv : ∀ i, i < N → 0 ≤ v i ∧ v i < PR (s 0)) (h8 : ∀ i, i < N → gA σ1 8 i = v i) (h9 : ∀ i, i < N → gA σ2 9 i = v i) : ∃ (k0 : Nat) (σ1' σ2' : St), k0 ≤ 46 ∧ f_RuleFinder_find_lattice0 F σ1 (N : Nat) = some (0, σ1') ∧ f_M_keepRule F σ2 (N : Nat) = some (0, σ2') ∧ gF σ1' 577 = (k0 : Int) ∧ gF σ2' 31 = (k0 : Int) ∧ (∀ i, i < k0 → gA σ1' 10 i = gA σ2' 10 (i + 1)) ∧ gF σ1' 451 = gF σ2' 33 ∧ (gF σ1' 705 = gF σ2' 32 ∧ 0 ≤ gF σ2' 32 ∧ gF σ2' 32 ≤ 46) ∧ (∀ i : Nat, (i : Int) < gF σ2' 32 → gA σ1' 12 i = gA σ2' 11 i) ∧ (∀ q, q ≠ 577 → q ≠ 451 → q ≠ 705 → gF σ1' q = gF σ1 q) ∧ (∀ a, a < 103 → a ≠ 87 → a ≠ 10 → a ≠ 12 → ∀ j, gA σ1' a j = gA σ1 a j) ∧ (∀ q, q ≠ 25 → q ≠ 26 → q ≠ 27 → q ≠ 31 → q ≠ 32 → q ≠ 33 → gF σ2' q = gF σ2 q) ∧ ∀ a, a ≠ 7 → a ≠ 8 → a ≠ 10 → a ≠ 11 → ∀ j, gA σ2' a j = gA σ2 a j := by
  have i0 := hI.1
  have hp := PR_b i0
  obtain ⟨k0, s1, a1, a2, a3, a4, a5, a6, a7, a8, a9⟩ := W_find0 (F := F) (by omega) i0 hN hv N F σ1 0 (by omega) (by omega) hW.1.2.1 h8
  obtain ⟨k1, s2, b1, b2, b3, b4, b5, b6, b7, b8⟩ := M_keep0 (F := F) hF i0 hN hv N F σ2 0 (by omega) (by omega) hV.2.1 h9
  have hk : k1 = k0 := by
    rcases Nat.lt_trichotomy k0 k1 with h | h | h
    · have := b4 k0 (by omega) h; rw [a3] at this; cases this
    · exact h.symm
    · have := a4 k1 (by omega) h; rw [b3] at this; cases this
  subst hk
  have hcan := (el_UF i0 (high := N - k1) (wide := k1 + 1) (cols := k1) (A := SQ v k1) (by omega) (SQ_can hv (by omega))).1
  have hsb : ∀ i, i < k1 → 0 ≤ shS (PR (s 0)) (N - k1) k1 (SQ v k1) i ∧ shS (PR (s 0)) (N - k1) k1 (SQ v k1) i < PR (s 0) := fun i hi => shS_b (by omega) hi hcan
  generalize hA : (fun i => shS (PR (s 0)) (N - k1) k1 (SQ v k1) i) = A at *
  have hA1 : ∀ i, i < k1 → gA s1 10 i = A i ∧ 0 ≤ A i ∧ A i < PR (s 0) := fun i hi => by rw [← hA]; exact ⟨a7 i hi, hsb i hi⟩
  have hA2 : ∀ i, i < k1 → gA s2 10 (i + 1) = A i ∧ 0 ≤ A i ∧ A i < PR (s 0) := fun i hi => by rw [← hA]; exact ⟨b6 i hi, hsb i hi⟩
  have hW1 : WV s1 s := WV_of hW (fun q hq => a8 q (by omega)) (fun a h1 h2 i => a9 a (by omega) (by omega) (by omega) i)
  have hV1 : MV (sF s2 31 (k1 : Nat)) s := MV_of hV (b7 20 (by omega) (by omega) (by omega)) (b7 21 (by omega) (by omega) (by omega)) (fun i => b8 2 (by omega) (by omega) (by omega) i) (fun i => b8 6 (by omega) (by omega) (by omega) i)
  have hk46 : k1 ≤ 46 := by omega
  have hB2 : btS (rtB (s 0) A k1) (s 0).toNat 0 0 < 2 ^ 60 := btS_lt2 _ 60 _ _ _ (by omega) (by omega)
  have rW := W_rt (F := F) (by omega) hI hW1 hk46 a6 hA1 (s 0).toNat F 0 0 (by omega) (by omega) (by omega)
  have rM := M_32 (F := F) (by omega) hI hV1 hk46 (fun i hi => hA2 i hi) (s 0).toNat F 0 0 0 (by omega) (by omega) (by omega)
  have hpc := pcN_bt (rtB (s 0) A k1) (K := 64) (by omega) (s 0).toNat 0 0 (by omega) (by omega)
  rw [pcN_0, Nat.zero_add] at hpc
  rw [Nat.zero_add] at rM
  have hCle := cD_le (rtB (s 0) A k1) (s 0).toNat 0
  have hBdef : btS (rtB (s 0) A k1) (s 0).toNat 0 0 = btS (rtB (s 0) A k1) (s 0).toNat 0 0 := rfl
  generalize hC : cD (rtB (s 0) A k1) (s 0).toNat 0 = C at *
  have hWf : f_RuleFinder_find_lattice0 F σ1 (N : Nat) = bnd (f_RuleFinder_findStrengths_lattice0 F (sF s1 451 ((btS (rtB (s 0) A k1) (s 0).toNat 0 0 : Nat) : Int))) fun r10 σ11 => some (0, σ11) := by
    refine Eq.trans a5 ?_
    rw [show f_RuleFinder_findRoots_lattice0 F s1 = _ from rW, bnd_s]
  have hMf : f_M_keepRule F σ2 (N : Nat) = tl32 F (sF (sF s2 31 (k1 : Nat)) 33 ((btS (rtB (s 0) A k1) (s 0).toNat 0 0 : Nat) : Int)) (k1 : Nat) (C : Nat) := Eq.trans b5 rM
  have hbit := JL_bit (F := F) (σ := sF (sF s1 451 ((btS (rtB (s 0) A k1) (s 0).toNat 0 0 : Nat) : Int)) 705 0) hB2
  rw [hpc] at hbit
  have e577 : gF (sF s1 451 ((btS (rtB (s 0) A k1) (s 0).toNat 0 0 : Nat) : Int)) 577 = (k1 : Nat) := a6
  by_cases hz : k1 = 0 ∨ C ≠ k1
  · have w1 : f_RuleFinder_findStrengths_lattice0 F (sF s1 451 ((btS (rtB (s 0) A k1) (s 0).toNat 0 0 : Nat) : Int)) = some (0, sF (sF s1 451 ((btS (rtB (s 0) A k1) (s 0).toNat 0 0 : Nat) : Int)) 705 0) := by
      unfold f_RuleFinder_findStrengths_lattice0
      rw [e577, bv_s, bs_s, gd_t (by omega)]
      by_cases q : k1 = 0
      · rw [if_pos (by omega)]
      · rw [if_neg (by omega), show gF (sF (sF s1 451 ((btS (rtB (s 0) A k1) (s 0).toNat 0 0 : Nat) : Int)) 705 0) 451 = ((btS (rtB (s 0) A k1) (s 0).toNat 0 0 : Nat) : Int) from rfl, hbit, bnd_s, gd_t (by omega), if_neg (by omega)]
    have m1 : tl32 F (sF (sF s2 31 (k1 : Nat)) 33 ((btS (rtB (s 0) A k1) (s 0).toNat 0 0 : Nat) : Int)) (k1 : Nat) (C : Nat) = some (0, sF (sF (sF s2 31 (k1 : Nat)) 33 ((btS (rtB (s 0) A k1) (s 0).toNat 0 0 : Nat) : Int)) 32 0) := by
      unfold tl32
      rw [gd_t (by omega)]
      by_cases q : k1 = 0
      · rw [if_pos (by omega), bs_s, gF_eq, gd_t (by decide), if_pos rfl]
      · rw [if_neg (by omega), gd_t (by omega), if_neg (by omega), bs_s, gF_eq, gd_t (by decide), if_pos rfl]
    rw [w1, bnd_s] at hWf
    rw [m1] at hMf
    refine ⟨k1, _, _, hk46, hWf, hMf, a6, rfl, fun i hi => (hA1 i hi).1.trans (hA2 i hi).1.symm, rfl, ⟨rfl, by rw [gF_eq]; omega, by rw [gF_eq]; omega⟩, fun i hi => ?_, fun q h1 h2 h3 => ?_, fun a h1 h2 h3 _ j => a9 a h1 h2 h3 j, fun q h1 h2 h3 h4 h5 h6 => ?_, fun a h1 h2 h3 _ j => b8 a h1 h2 h3 j⟩
    · rw [gF_eq] at hi; omega
    · rw [gF_sF, if_neg h3, gF_sF, if_neg h2]; exact a8 q h1
    · rw [gF_sF, if_neg h5, gF_sF, if_neg h6, gF_sF, if_neg h4]; exact b7 q h1 h2 h3
  · have hk0 : k1 ≠ 0 := fun w => hz (Or.inl w)
    have hCk : C = k1 := by
      by_cases w : C = k1
      · exact w
      · exact absurd (Or.inr w) hz
    subst hCk
    have hvk : ∀ i, i < C → 0 ≤ v i ∧ v i < PR (s 0) := fun i hi => hv i (by omega)
    obtain ⟨u1, x1, x2, x3⟩ := W_s38 (F := F) (by omega) hI (P := rtB (s 0) A C) (v := v) hk46 rfl hB2 (s 0).toNat F (sF (sF s1 451 ((btS (rtB (s 0) A C) (s 0).toNat 0 0 : Nat) : Int)) 705 0) 0 0 hW1 rfl (by omega) (by omega) (by omega) (fun j => by rw [Nat.zero_add]) (fun r c hr hc => by omega)
    obtain ⟨u2, rr, y1, y2, y3, y4, y5⟩ := W_s106 (F := F) (by omega) hI (P := rtB (s 0) A C) (v := v) hk46 hvk C F u1 0 (by rw [x3.1]; exact hW1.1.2.1) (fun j hj => by rw [x3.2 8 (by omega) (by omega)]; exact (a9 8 (by omega) (by omega) (by omega) j).trans (h8 j (by omega))) (by omega) (by omega) x2
    have hmd := SM_md hI (P := rtB (s 0) A C) hvk hC
    rw [hmd] at y2
    obtain ⟨y6, y7⟩ := y3 y2
    obtain ⟨u3, z1', z2', z3', z4'⟩ := M_166 (F := F) hF hI (P := rtB (s 0) A C) (v := v) hk46 rfl hB2 hC hvk C F (sF (sF (sF (sF (sF s2 31 (C : Nat)) 33 ((btS (rtB (s 0) A C) (s 0).toNat 0 0 : Nat) : Int)) 32 (C : Nat)) 25 ((C : Int) + 1)) 26 (C : Nat)) 0 hV1 rfl (by rw [gF_sF, if_neg (by omega), gF_eq]; omega) rfl (fun j hj => (b8 9 (by omega) (by omega) (by omega) j).trans (h9 j (by omega))) (by omega) (by omega) (fun r c hc hr => by omega)
    have w1 : f_RuleFinder_findStrengths_lattice0 F (sF s1 451 ((btS (rtB (s 0) A C) (s 0).toNat 0 0 : Nat) : Int)) = some (0, u2) := by
      unfold f_RuleFinder_findStrengths_lattice0
      rw [e577, bv_s, bs_s, gd_t (by omega), if_neg (by omega), show gF (sF (sF s1 451 ((btS (rtB (s 0) A C) (s 0).toNat 0 0 : Nat) : Int)) 705 0) 451 = ((btS (rtB (s 0) A C) (s 0).toNat 0 0 : Nat) : Int) from rfl, hbit, bnd_s, gd_t (by omega), if_pos rfl]
      exact x1.trans y1
    have m1 : tl32 F (sF (sF s2 31 (C : Nat)) 33 ((btS (rtB (s 0) A C) (s 0).toNat 0 0 : Nat) : Int)) (C : Nat) (C : Nat) = some (0, u3) := by
      unfold tl32
      rw [gd_t (by omega), if_neg (by omega), gd_t (by omega), if_pos rfl, bs_s, gF_eq, gd_t (by omega), if_neg (by omega), bs_s, bs_s]
      exact z1'
    rw [w1, bnd_s] at hWf
    rw [m1] at hMf
    have f32 : gF u3 32 = (C : Nat) := by rw [z3' 32 (by omega)]; rfl
    refine ⟨C, u2, u3, hk46, hWf, hMf, ?_, ?_, fun i hi => ?_, ?_, ⟨by rw [y6, f32], by rw [f32]; omega, by rw [f32]; omega⟩, fun i hi => ?_, fun q h1 h2 h3 => ?_, fun a h1 h2 h3 h4 j => ?_, fun q h1 h2 h3 h4 h5 h6 => ?_, fun a h1 h2 h3 h4 j => ?_⟩
    · rw [y4 577 (by omega), x3.1]; exact a6
    · rw [z3' 31 (by omega)]; rfl
    · rw [y5 10 (by omega) (by omega) (by omega), x3.2 10 (by omega) (by omega), z4' 10 (by omega) (by omega) (by omega)]
      exact (hA1 i hi).1.trans (hA2 i hi).1.symm
    · rw [y4 451 (by omega), x3.1, z3' 33 (by omega)]; rfl
    · rw [f32] at hi
      rw [y7 i (by omega), z2' i (by omega)]
    · rw [y4 q h3, x3.1, gF_sF, if_neg h3, gF_sF, if_neg h2]; exact a8 q h1
    · rw [y5 a h1 h2 h4, x3.2 a h1 h2]; exact a9 a h1 h2 h3 j
    · rw [z3' q h3, gF_sF, if_neg h2, gF_sF, if_neg h1, gF_sF, if_neg h5, gF_sF, if_neg h6, gF_sF, if_neg h4]; exact b7 q h1 h2 h3
    · rw [z4' a h1 h2 h4]; exact b8 a h1 h2 h3 j
end
