/-! PURE PART: the shortest rule -/
section
variable {F : Nat} {n : Int}
theorem M_hr124 (hn : wayN n) {k h : Nat} {B : Nat → Nat → Int} (hk : k ≤ 46) (hh : h ≤ k) : ∀ (d m : Nat) (σ : St) (i : Nat), d < m → i + d = k → gF σ 25 = ((k + 1 : Nat) : Int) → gF σ 26 = (h : Nat) → MB σ h (k + 1) (el (PR n) h k B).2.1 → (∀ c, c < k → gA σ 8 c = (el (PR n) h k B).2.2.1 c) → ∃ σ', l_M_hasRule_124 F m σ (k : Nat) ((i + 1 : Nat) : Int) = some (1, σ') ∧ (∀ c, i ≤ c → c < k → gA σ' 10 (c + 1) = shS (PR n) h k B c) ∧ (∀ c, c ≤ i → gA σ' 10 c = gA σ 10 c) ∧ (∀ q, gF σ' q = gF σ q) ∧ ∀ a, a ≠ 10 → ∀ i, gA σ' a i = gA σ a i
  | _, 0, _, _, h, _, _, _, _, _ => by omega
  | 0, m + 1, σ, i, _, hi, h25, h26, hM, hl => by
    refine ⟨σ, ?_, fun c h1 h2 => by omega, fun _ _ => rfl, fun _ => rfl, fun _ _ _ => rfl⟩
    show b_M_hasRule_124 F _ σ _ _ = _
    unfold b_M_hasRule_124
    rw [gd_t (by omega), if_pos (by omega)]
  | d + 1, m + 1, σ, i, hm, hi, h25, h26, hM, hl => by
    have lt3 : (k + 1) * h ≤ 47 * 47 := Nat.mul_le_mul (by omega) (by omega)
    obtain ⟨σ', k1, k2, k3, k4, k5⟩ := M_hr124 hn hk hh d m (sA σ 10 (i + 1) (shS (PR n) h k B i)) (i + 1) (by omega) (by omega) h25 h26 (fun r c h1 h2 => by rw [gA_sA, if_neg (by omega)]; exact hM r c h1 h2) (fun c hc => by rw [gA_sA, if_neg (by omega)]; exact hl c hc)
    refine ⟨σ', ?_, fun c h1 h2 => ?_, fun c hc => by rw [k3 c (by omega), gA_sA, if_neg (by omega)], fun q => k4 q, fun a ha i' => by rw [k5 a ha, gA_sA, if_neg (fun w => ha w.1)]⟩
    · rw [← k1]
      show b_M_hasRule_124 F _ σ _ _ = _
      unfold b_M_hasRule_124
      rw [gd_t (by omega), if_neg (by omega), gd_t (by omega)]
      by_cases z : h = 0
      · subst z
        rw [if_pos (by omega), gd_t (by omega), bs_s, bv_s, Int.toNat_natCast, sh_0 (by omega)]; rfl
      · rw [if_neg (by omega), show ((i + 1 : Nat) : Int) - 1 = (i : Nat) by omega, M_share hn (high := h) (cols := k) (c := i) (A := B) (by omega) (by omega) (by omega) h25 hM hl, bnd_s, gd_t (by omega), bs_s, bv_s, Int.toNat_natCast]; rfl
    · by_cases z : c = i
      · rw [z, k3 (i + 1) (by omega), gA_sA, if_pos ⟨rfl, rfl⟩]
      · exact k2 c (by omega) h2
theorem RX_NS {p : Int} {h wide : Nat} {B : Nat → Nat → Int} {row x : Nat → Int} : NS p (h + 1) wide (RX B h row) x ↔ NS p h wide B x ∧ dt row x wide % p = 0 := by
  rw [NS_row]
  have e1 : dt (RX B h row h) x wide = dt row x wide := dt_congr wide (fun k _ => by unfold RX; rw [if_pos rfl])
  rw [e1]
  constructor
  · rintro ⟨h1, h2⟩
    refine ⟨fun r hr => ?_, h2⟩
    have := h1 r hr
    rw [dt_congr (g := B r) wide (fun k _ => by unfold RX; rw [if_neg (by omega)])] at this
    exact this
  · rintro ⟨h1, h2⟩
    refine ⟨fun r hr => ?_, h2⟩
    rw [dt_congr (g := B r) wide (fun k _ => by unfold RX; rw [if_neg (by omega)])]
    exact h1 r hr
theorem M_hr14 (hF : 3000 ≤ F) (hn : wayN n) {v : Nat → Int} {k N : Nat} (hN : N ≤ 46) (hv : ∀ i, i < N → 0 ≤ v i ∧ v i < PR n) : ∀ (d m : Nat) (σ : St) (j h : Nat) (B : Nat → Nat → Int), d < m → j + d = N → k ≤ j → h ≤ k → gF σ 25 = ((k + 1 : Nat) : Int) → gF σ 26 = (h : Nat) → gF σ 20 = PR n → (∀ i, i < N → gA σ 9 i = v i) → MB σ h (k + 1) B → Can (PR n) h (k + 1) B → (∀ x, NS (PR n) h (k + 1) B x ↔ NS (PR n) (j - k) (k + 1) (SQ v k) x) → mdB (PR n) (j - k) k (SQ v k) = true → ∃ σ', l_M_hasRule_14 F m σ (N : Nat) (k : Nat) (j : Nat) = some (bi (mdB (PR n) (N - k) k (SQ v k)), σ') ∧ (mdB (PR n) (N - k) k (SQ v k) = true → ∀ c, c < k → gA σ' 10 (c + 1) = shS (PR n) (N - k) k (SQ v k) c) ∧ (∀ q, q ≠ 26 → q ≠ 27 → gF σ' q = gF σ q) ∧ ∀ a, a ≠ 7 → a ≠ 8 → a ≠ 10 → ∀ i, gA σ' a i = gA σ a i
  | _, 0, _, _, _, _, h, _, _, _, _, _, _, _, _, _, _, _ => by omega
  | 0, m + 1, σ, j, h, B, _, hj, hk, hh, h25, h26, h20, h9, hM, hB, hs, hm => by
    have hjN : j = N := by omega
    subst hjN
    have lt3 : (k + 1) * h ≤ 47 * 47 := Nat.mul_le_mul (by omega) (by omega)
    have hsm := sh_same hn hB (SQ_can (high := j - k) (k := k) hv (by omega)) hs
    obtain ⟨s1, j1, j2, j3, j4, j5, j6, j7⟩ := M_steps (F := F) hF hn (σ := σ) (high := h) (wide := k + 1) (cols := k) (A := B) (by omega) (by omega) (by omega) (by omega) h25 h26 h20 hM hB
    obtain ⟨σ', k1, k2, k3, k4, k5⟩ := M_hr124 (F := F) hn (k := k) (h := h) (B := B) (by omega) hh k F s1 0 (by omega) (by omega) (by rw [j6 25 (by omega)]; exact h25) (by rw [j6 26 (by omega)]; exact h26) j2 j5
    refine ⟨σ', ?_, fun _ c hc => ?_, fun q h1 h2 => by rw [k4, j6 q h2], fun a h1 h2 h3 i => by rw [k5 a h3, j7 a h1 h2]⟩
    · show b_M_hasRule_14 F _ σ _ _ _ = _
      unfold b_M_hasRule_14
      rw [gd_t (by omega), if_pos (by omega), j1, bnd_s, hm]
      exact k1
    · rw [k2 c (by omega) hc]
      exact hsm.2 (by rw [hsm.1]; exact hm) c hc
  | d + 1, m + 1, σ, j, h, B, hmm, hj, hk, hh, h25, h26, h20, h9, hM, hB, hs, hm => by
    have hcan : Can (PR n) (h + 1) (k + 1) (RX B h (SQ v k (j - k))) := by
      intro r c hr hc
      unfold RX
      by_cases q : r = h
      · rw [if_pos q]
        exact SQ_can (high := j - k + 1) (k := k) hv (by omega) (j - k) c (by omega) hc
      · rw [if_neg q]; exact hB r c (by omega) hc
    have hPM : PM σ (k + 1) h 0 (RX B h (SQ v k (j - k))) := fun r c hc hr => by
      have : r < h := by omega
      unfold RX
      rw [if_neg (by omega)]
      exact hM r c this hc
    obtain ⟨s1, j1, j2, j3, j4, j5, j6⟩ := M_hr22 (F := F) hF hn (l_M_hasRule_14 F m) (v := v) (k := k) (N := N) (j := j) (h := h) hN hk (by omega) hh (B := B) hcan k F σ 0 (by omega) (by omega) h25 h26 h20 h9 hPM
    have hns : ∀ x, NS (PR n) (h + 1) (k + 1) (RX B h (SQ v k (j - k))) x ↔ NS (PR n) (j + 1 - k) (k + 1) (SQ v k) x := fun x => by
      rw [RX_NS, hs x, show j + 1 - k = (j - k) + 1 by omega, NS_row]
    have hsm := sh_same hn hcan (SQ_can (high := j + 1 - k) (k := k) hv (by omega)) hns
    have hstep : l_M_hasRule_14 F (m + 1) σ (N : Nat) (k : Nat) (j : Nat) = l_M_hasRule_22 F (l_M_hasRule_14 F m) F σ (N : Nat) (k : Nat) (j : Nat) 1 := by
      show b_M_hasRule_14 F _ σ _ _ _ = _
      unfold b_M_hasRule_14
      rw [gd_t (by omega), if_neg (by omega)]
    rw [hstep]
    rw [Nat.zero_add] at j1
    cases q : mdB (PR n) (h + 1) k (RX B h (SQ v k (j - k))) with
    | false =>
      rw [q, if_neg Bool.false_ne_true] at j1
      have hf : mdB (PR n) (N - k) k (SQ v k) = false := by
        cases z : mdB (PR n) (N - k) k (SQ v k) with
        | false => rfl
        | true =>
          have := mdB_less hn (h1 := j + 1 - k) (SQ_can (high := N - k) (k := k) hv (by omega)) (by omega) z
          rw [← hsm.1, q] at this
          cases this
      rw [hf]
      exact ⟨s1, j1, fun h => (by cases h), j5, fun a h1 h2 _ i => j6 a h1 h2 i⟩
    | true =>
      rw [q, if_pos rfl] at j1
      have hrk := el_rk (p := PR n) (high := h + 1) (cols := k) (A := RX B h (SQ v k (j - k)))
      obtain ⟨σ', k1, k2, k3, k4⟩ := M_hr14 hF hn hN hv d m s1 (j + 1) (el (PR n) (h + 1) k (RX B h (SQ v k (j - k)))).1 (el (PR n) (h + 1) k (RX B h (SQ v k (j - k)))).2.1 (by omega) (by omega) (by omega) hrk.2 (by rw [j5 25 (by omega) (by omega)]; exact h25) (j4 q) (by rw [j5 20 (by omega) (by omega)]; exact h20) (fun i hi => by rw [j6 9 (by omega) (by omega)]; exact h9 i hi) (fun r c h1 h2 => j2 r c (by omega) h2) (fun r c h1 h2 => j3 r c (by omega) h2) (fun x => (NS_cut hn hcan q x).trans (hns x)) (by rw [← hsm.1]; exact q)
      exact ⟨σ', j1.trans k1, k2, fun q' h1 h2 => (k3 q' h1 h2).trans (j5 q' h1 h2), fun a h1 h2 h3 i => (k4 a h1 h2 h3 i).trans (j6 a h1 h2 i)⟩
theorem M_hasRule (hF : 3000 ≤ F) (hn : wayN n) {v : Nat → Int} {k N : Nat} (hN : N ≤ 46) (hk : k ≤ N) (hv : ∀ i, i < N → 0 ≤ v i ∧ v i < PR n) {σ : St} (h20 : gF σ 20 = PR n) (h9 : ∀ i, i < N → gA σ 9 i = v i) : ∃ σ', f_M_hasRule F σ (N : Nat) (k : Nat) = some (bi (mdB (PR n) (N - k) k (SQ v k)), σ') ∧ (mdB (PR n) (N - k) k (SQ v k) = true → ∀ c, c < k → gA σ' 10 (c + 1) = shS (PR n) (N - k) k (SQ v k) c) ∧ (∀ q, q ≠ 25 → q ≠ 26 → q ≠ 27 → gF σ' q = gF σ q) ∧ ∀ a, a ≠ 7 → a ≠ 8 → a ≠ 10 → ∀ i, gA σ' a i = gA σ a i := by
  obtain ⟨σ', k1, k2, k3, k4⟩ := M_hr14 (F := F) hF hn (v := v) (k := k) hN hv (N - k) F (sF (sF σ 25 ((k : Int) + 1)) 26 0) k 0 (fun _ _ => 0) (by omega) (by omega) (by omega) (by omega) (by rw [gF_sF, if_neg (by omega), gF_sF, if_pos rfl]; omega) rfl h20 h9 (fun r c h => by omega) (fun r c h => by omega) (fun x => by rw [Nat.sub_self]; exact ⟨fun _ r hr => by omega, fun _ r hr => by omega⟩) (by rw [Nat.sub_self]; exact mdB_0)
  refine ⟨σ', k1, k2, fun q h1 h2 h3 => by rw [k3 q h2 h3, gF_sF, if_neg h2, gF_sF, if_neg h1], fun a h1 h2 h3 i => k4 a h1 h2 h3 i⟩
theorem W_find0 (hF : 200 ≤ F) (hn : wayN n) {v : Nat → Int} {N : Nat} (hN : N ≤ 46) (hv : ∀ i, i < N → 0 ≤ v i ∧ v i < PR n) : ∀ (d m : Nat) (σ : St) (k : Nat), d < m → k + d = N → gF σ 1473 = PR n → (∀ i, i < N → gA σ 8 i = v i) → ∃ k0 σ', k ≤ k0 ∧ k0 ≤ N ∧ mdB (PR n) (N - k0) k0 (SQ v k0) = true ∧ (∀ q, k ≤ q → q < k0 → mdB (PR n) (N - q) q (SQ v q) = false) ∧ l_RuleFinder_find_lattice0_3 F m σ (N : Nat) (k : Nat) = (bnd (f_RuleFinder_findRoots_lattice0 F σ') fun r8 σ9 => bnd (f_RuleFinder_findStrengths_lattice0 F σ9) fun r10 σ11 => some (0, σ11)) ∧ gF σ' 577 = (k0 : Int) ∧ (∀ c, c < k0 → gA σ' 10 c = shS (PR n) (N - k0) k0 (SQ v k0) c) ∧ (∀ q, q ≠ 577 → gF σ' q = gF σ q) ∧ ∀ a, a < 103 → a ≠ 87 → a ≠ 10 → ∀ j, gA σ' a j = gA σ a j
  | _, 0, _, _, h, _, _, _ => by omega
  | d, m + 1, σ, k, hm, hk, h1, h8 => by
    obtain ⟨s1, j1, j2, j3, j4⟩ := W_fits (F := F) hF hn (v := v) (k := k) hN (by omega) hv (σ := σ) h8
    have hstep : l_RuleFinder_find_lattice0_3 F (m + 1) σ (N : Nat) (k : Nat) = gd (rng (bi (mdB (PR n) (N - k) k (SQ v k)))) (if bi (mdB (PR n) (N - k) k (SQ v k)) = 0 then bv ((k : Int) + 1) fun x4_7 => l_RuleFinder_find_lattice0_3 F m s1 (N : Nat) x4_7 else bnd (f_RuleFinder_findRoots_lattice0 F s1) fun r8 σ9 => bnd (f_RuleFinder_findStrengths_lattice0 F σ9) fun r10 σ11 => some (0, σ11)) := by
      show b_RuleFinder_find_lattice0_3 F _ σ _ _ = _
      unfold b_RuleFinder_find_lattice0_3
      rw [gd_t (by omega), if_neg (by omega), h1, j1, bnd_s]
    rw [hstep]
    cases q : mdB (PR n) (N - k) k (SQ v k) with
    | true =>
      refine ⟨k, s1, by omega, by omega, q, fun q' h1 h2 => by omega, ?_, (j2 q).1, (j2 q).2, j3, j4⟩
      rw [show bi true = 1 from rfl, gd_t (by decide), if_neg (by decide)]
    | false =>
      have hlt : k < N := by
        by_cases z : k < N
        · exact z
        · exfalso
          rw [show N - k = 0 by omega, mdB_0] at q
          cases q
      obtain ⟨d', rfl⟩ : ∃ d', d = d' + 1 := ⟨d - 1, by omega⟩
      obtain ⟨k0, σ', g1, g2, g3, g4, g5, g6, g7, g8, g9⟩ := W_find0 hF hn hN hv d' m s1 (k + 1) (by omega) (by omega) (by rw [j3 1473 (by omega)]; exact h1) (fun i hi => by rw [j4 8 (by omega) (by omega) (by omega)]; exact h8 i hi)
      refine ⟨k0, σ', by omega, g2, g3, fun q' h1 h2 => ?_, ?_, g6, g7, fun q' hq => (g8 q' hq).trans (j3 q' hq), fun a h1 h2 h3 j => (g9 a h1 h2 h3 j).trans (j4 a h1 h2 h3 j)⟩
      · by_cases z : q' = k
        · rw [z]; exact q
        · exact g4 q' (by omega) h2
      · rw [show bi false = 0 from rfl, gd_t (by decide), if_pos rfl, bv_s]
        exact g5
theorem M_keep0 (hF : 3000 ≤ F) (hn : wayN n) {v : Nat → Int} {N : Nat} (hN : N ≤ 46) (hv : ∀ i, i < N → 0 ≤ v i ∧ v i < PR n) : ∀ (d m : Nat) (σ : St) (k : Nat), d < m → k + d = N → gF σ 20 = PR n → (∀ i, i < N → gA σ 9 i = v i) → ∃ k0 σ', k ≤ k0 ∧ k0 ≤ N ∧ mdB (PR n) (N - k0) k0 (SQ v k0) = true ∧ (∀ q, k ≤ q → q < k0 → mdB (PR n) (N - q) q (SQ v q) = false) ∧ l_M_keepRule_2 F m σ (N : Nat) (k : Nat) = l_M_keepRule_32 F F (sF (sF σ' 31 (k0 : Nat)) 33 0) (k0 : Nat) 0 0 ∧ (∀ c, c < k0 → gA σ' 10 (c + 1) = shS (PR n) (N - k0) k0 (SQ v k0) c) ∧ (∀ q, q ≠ 25 → q ≠ 26 → q ≠ 27 → gF σ' q = gF σ q) ∧ ∀ a, a ≠ 7 → a ≠ 8 → a ≠ 10 → ∀ j, gA σ' a j = gA σ a j
  | _, 0, _, _, h, _, _, _ => by omega
  | d, m + 1, σ, k, hm, hk, h1, h8 => by
    obtain ⟨s1, j1, j2, j3, j4⟩ := M_hasRule (F := F) hF hn (v := v) (k := k) hN (by omega) hv (σ := σ) h1 h8
    have hstep : l_M_keepRule_2 F (m + 1) σ (N : Nat) (k : Nat) = gd (rng (bi (mdB (PR n) (N - k) k (SQ v k)))) (if bi (mdB (PR n) (N - k) k (SQ v k)) = 0 then bv ((k : Int) + 1) fun x2_38 => l_M_keepRule_2 F m s1 (N : Nat) x2_38 else bs (sF s1 31 (k : Nat)) fun σ3 => bs (sF σ3 33 0) fun σ4 => l_M_keepRule_32 F F σ4 (k : Nat) 0 0) := by
      show b_M_keepRule_2 F _ σ _ _ = _
      unfold b_M_keepRule_2
      rw [j1, bnd_s]
    rw [hstep]
    cases q : mdB (PR n) (N - k) k (SQ v k) with
    | true =>
      refine ⟨k, s1, by omega, by omega, q, fun q' h1 h2 => by omega, ?_, j2 q, j3, j4⟩
      rw [show bi true = 1 from rfl, gd_t (by decide), if_neg (by decide), bs_s, bs_s]
    | false =>
      have hlt : k < N := by
        by_cases z : k < N
        · exact z
        · exfalso
          rw [show N - k = 0 by omega, mdB_0] at q
          cases q
      obtain ⟨d', rfl⟩ : ∃ d', d = d' + 1 := ⟨d - 1, by omega⟩
      obtain ⟨k0, σ', g1, g2, g3, g4, g5, g6, g7, g8⟩ := M_keep0 hF hn hN hv d' m s1 (k + 1) (by omega) (by omega) (by rw [j3 20 (by omega) (by omega) (by omega)]; exact h1) (fun i hi => by rw [j4 9 (by omega) (by omega) (by omega)]; exact h8 i hi)
      refine ⟨k0, σ', by omega, g2, g3, fun q' h1 h2 => ?_, ?_, g6, fun q' h1 h2 h3 => (g7 q' h1 h2 h3).trans (j3 q' h1 h2 h3), fun a h1 h2 h3 j => (g8 a h1 h2 h3 j).trans (j4 a h1 h2 h3 j)⟩
      · by_cases z : q' = k
        · rw [z]; exact q
        · exact g4 q' (by omega) h2
      · rw [show bi false = 0 from rfl, gd_t (by decide), if_pos rfl, bv_s]
        exact g5
end
