/-! PURE PART: the steps of a rule -/
def SQ (v : Nat → Int) (k : Nat) : Nat → Nat → Int := fun r c => if c < k then v (k + r - (c + 1)) else v (k + r)
theorem SQ_can {p : Int} {v : Nat → Int} {k N high : Nat} (hv : ∀ i, i < N → 0 ≤ v i ∧ v i < p) (h : k + high ≤ N) : Can p high (k + 1) (SQ v k) := by
  intro r c hr hc
  unfold SQ
  split
  · exact hv _ (by omega)
  · exact hv _ (by omega)
theorem NS_row {p : Int} {high wide : Nat} {A : Nat → Nat → Int} {x : Nat → Int} : NS p (high + 1) wide A x ↔ NS p high wide A x ∧ dt (A high) x wide % p = 0 := by
  constructor
  · exact fun h => ⟨fun r hr => h r (by omega), h high (by omega)⟩
  · rintro ⟨h1, h2⟩ r hr
    by_cases c : r = high
    · rw [c]; exact h2
    · exact h1 r (by omega)
theorem NS_cut {n : Int} {high cols : Nat} {A : Nat → Nat → Int} (hn : wayN n) (hA : Can (PR n) high (cols + 1) A) (hm : mdB (PR n) high cols A = true) (x : Nat → Int) : NS (PR n) (el (PR n) high cols A).1 (cols + 1) (el (PR n) high cols A).2.1 x ↔ NS (PR n) high (cols + 1) A x := by
  obtain ⟨k1, k2, k3, k4⟩ := el_UF hn (high := high) (wide := cols + 1) (cols := cols) (A := A) (by omega) hA
  rw [← k4]
  unfold mdB at hm
  have hm' := fr_none _ _ |>.mp (by simpa using hm)
  constructor
  · intro h r hr
    by_cases c : r < (el (PR n) high cols A).1
    · exact h r c
    · have : dt ((el (PR n) high cols A).2.1 r) x (cols + 1) = 0 := dt_zero (cols + 1) (fun k hk => by
        left
        by_cases q : k = cols
        · rw [q]; exact hm' r (by omega) (by omega)
        · exact k2.1 r k (by omega) hr (by omega))
      rw [this, Int.zero_emod]
  · exact fun h r hr => h r (by omega)
theorem mdB_less {n : Int} (hn : wayN n) {h1 h2 cols : Nat} {A : Nat → Nat → Int} (hA : Can (PR n) h2 (cols + 1) A) (hh : h1 ≤ h2) (h : mdB (PR n) h2 cols A = true) : mdB (PR n) h1 cols A = true := by
  refine mdB_of hn (fun r k hr hk => hA r k (by omega) hk) (x := shX (PR n) h2 cols A) (by unfold shX; rw [if_neg (by omega)]) ?_
  have := mdB_shX hn hA h
  exact fun r hr => this r (by omega)
theorem sh_0 {p : Int} {cols c : Nat} {A : Nat → Nat → Int} (hc : c < cols) : shS p 0 cols A c = 0 := by
  have hll := el_LL (p := p) (high := 0) (cols := cols) (A := A)
  have hr := (el_rk (p := p) (high := 0) (cols := cols) (A := A)).1
  unfold shS
  rcases hll.1 c hc with h | h
  · rw [if_pos (by omega)]
  · omega
theorem mdB_0 {p : Int} {cols : Nat} {A : Nat → Nat → Int} : mdB p 0 cols A = true := by
  unfold mdB
  rw [Nat.zero_sub]
  rfl
section
variable {F : Nat} {n : Int}
theorem W_ft12 (k3 : St → Int → Int → Int → Int → Option (Int × St)) {v : Nat → Int} {k N r : Nat} {p : Int} (hN : N ≤ 46) (hr : k + r < N) : ∀ (d m : Nat) (σ : St) (c : Nat), d < m → c + d = k → (∀ i, i < N → gA σ 8 i = v i) → PW2 σ (k + 1) r c (SQ v k) → ∃ σ', l_RuleFinder_fits_12 F k3 m σ (k : Nat) (N : Nat) p ((k + r : Nat) : Int) ((c + 1 : Nat) : Int) = k3 σ' (k : Nat) (N : Nat) p ((k + (r + 1) : Nat) : Int) ∧ PW2 σ' (k + 1) (r + 1) 0 (SQ v k) ∧ RFr σ σ'
  | _, 0, _, _, h, _, _, _ => by omega
  | 0, m + 1, σ, c, _, hc, h8, hP => by
    have hck : c = k := by omega
    subst hck
    have e1 : Int.toNat (((c + r : Nat) : Int) - (c : Nat)) = r := by omega
    refine ⟨sA σ (103 + r) c (SQ v c r c), ?_, PW2_row (PW2_set hP rfl), RFr_set⟩
    have hs : SQ v c r c = v (c + r) := by unfold SQ; rw [if_neg (by omega)]
    rw [hs]
    show b_RuleFinder_fits_12 F k3 _ σ _ _ _ _ _ = _
    unfold b_RuleFinder_fits_12
    rw [gd_t (by omega), if_pos (by omega), gd_t (by omega), gd_t (by omega), gd_t (by omega), bs_s, bv_s, e1, Int.toNat_natCast, Int.toNat_natCast, h8 _ (by omega)]
    rfl
  | d + 1, m + 1, σ, c, hm, hc, h8, hP => by
    have e1 : Int.toNat (((k + r : Nat) : Int) - (k : Nat)) = r := by omega
    have e2 : Int.toNat (((k + r : Nat) : Int) - ((c + 1 : Nat) : Int)) = k + r - (c + 1) := by omega
    have e3 : Int.toNat (((c + 1 : Nat) : Int) - 1) = c := by omega
    have hs : SQ v k r c = v (k + r - (c + 1)) := by unfold SQ; rw [if_pos (by omega)]
    have hfr : RFr σ (sA σ (103 + r) c (SQ v k r c)) := RFr_set
    obtain ⟨σ', k1, k2, k4⟩ := W_ft12 k3 hN hr d m (sA σ (103 + r) c (SQ v k r c)) (c + 1) (by omega) (by omega) (fun i hi => by rw [gA_sA, if_neg (by omega)]; exact h8 i hi) (PW2_set hP rfl)
    refine ⟨σ', ?_, k2, hfr.tr k4⟩
    rw [hs] at k1
    show b_RuleFinder_fits_12 F k3 _ σ _ _ _ _ _ = _
    unfold b_RuleFinder_fits_12
    rw [gd_t (by omega), if_neg (by omega), gd_t (by omega), gd_t (by omega), gd_t (by omega), bs_s, bv_s, e1, e2, e3, h8 _ (by omega)]
    exact k1
theorem W_ft3 (hF : 200 ≤ F) (hn : wayN n) {v : Nat → Int} {k N : Nat} (hN : N ≤ 46) (hk : k ≤ N) (hv : ∀ i, i < N → 0 ≤ v i ∧ v i < PR n) : ∀ (d m : Nat) (σ : St) (r : Nat), d < m → k + r + d = N → (∀ i, i < N → gA σ 8 i = v i) → PW2 σ (k + 1) r 0 (SQ v k) → ∃ σ', l_RuleFinder_fits_3 F m σ (k : Nat) (N : Nat) (PR n) ((k + r : Nat) : Int) = some (bi (mdB (PR n) (N - k) k (SQ v k)), σ') ∧ (mdB (PR n) (N - k) k (SQ v k) = true → gF σ' 577 = (k : Int) ∧ ∀ c, c < k → gA σ' 10 c = shS (PR n) (N - k) k (SQ v k) c) ∧ (∀ q, q ≠ 577 → gF σ' q = gF σ q) ∧ ∀ a, a < 103 → a ≠ 87 → a ≠ 10 → ∀ j, gA σ' a j = gA σ a j
  | _, 0, _, _, h, _, _, _ => by omega
  | 0, m + 1, σ, r, _, hr, h8, hP => by
    have e : ((N : Nat) : Int) - (k : Nat) = ((N - k : Nat) : Int) := by omega
    obtain ⟨σ', k1, k2, k3, k4, k5, k6⟩ := W_solve_steps (F := F) hF hn (σ := σ) (high := N - k) (cols := k) (A := SQ v k) (by omega) (by omega) (by omega) (fun r' c' h1 h2 => hP r' c' h2 (by omega)) (SQ_can hv (by omega))
    refine ⟨σ', ?_, k3, k5, k6⟩
    show b_RuleFinder_fits_3 F _ σ _ _ _ _ = _
    unfold b_RuleFinder_fits_3
    rw [gd_t (by omega), if_pos (by omega), e, k1, bnd_s, gd_t (by cases mdB (PR n) (N - k) k (SQ v k) <;> decide)]
  | d + 1, m + 1, σ, r, hm, hr, h8, hP => by
    obtain ⟨s1, j1, j2, j3⟩ := W_ft12 (F := F) (l_RuleFinder_fits_3 F m) (v := v) (k := k) (N := N) (r := r) (p := PR n) hN (by omega) k F σ 0 (by omega) (by omega) h8 hP
    obtain ⟨σ', k1, k2, k3, k4⟩ := W_ft3 hF hn hN hk hv d m s1 (r + 1) (by omega) (by omega) (fun i hi => by rw [j3.2 8 (by omega) (by omega)]; exact h8 i hi) j2
    refine ⟨σ', ?_, k2, fun q hq => (k3 q hq).trans (j3.1 q), fun a h1 h2 h3 j => (k4 a h1 h2 h3 j).trans (j3.2 a h1 h2 j)⟩
    show b_RuleFinder_fits_3 F _ σ _ _ _ _ = _
    unfold b_RuleFinder_fits_3
    rw [gd_t (by omega), if_neg (by omega)]
    exact j1.trans k1
theorem W_fits (hF : 200 ≤ F) (hn : wayN n) {v : Nat → Int} {k N : Nat} (hN : N ≤ 46) (hk : k ≤ N) (hv : ∀ i, i < N → 0 ≤ v i ∧ v i < PR n) {σ : St} (h8 : ∀ i, i < N → gA σ 8 i = v i) : ∃ σ', f_RuleFinder_fits F σ (k : Nat) (N : Nat) (PR n) = some (bi (mdB (PR n) (N - k) k (SQ v k)), σ') ∧ (mdB (PR n) (N - k) k (SQ v k) = true → gF σ' 577 = (k : Int) ∧ ∀ c, c < k → gA σ' 10 c = shS (PR n) (N - k) k (SQ v k) c) ∧ (∀ q, q ≠ 577 → gF σ' q = gF σ q) ∧ ∀ a, a < 103 → a ≠ 87 → a ≠ 10 → ∀ j, gA σ' a j = gA σ a j :=
  W_ft3 hF hn hN hk hv (N - k) F σ 0 (by omega) (by omega) h8 (fun r c hc hr => by omega)
/-- one row more -/
def RX (B : Nat → Nat → Int) (h : Nat) (row : Nat → Int) : Nat → Nat → Int := fun r c => if r = h then row c else B r c
theorem M_hr22 (hF : 3000 ≤ F) (hn : wayN n) (k14 : St → Int → Int → Int → Option (Int × St)) {v : Nat → Int} {k N j h : Nat} (hN : N ≤ 46) (hk : k ≤ j) (hj : j < N) (hh : h ≤ k) {B : Nat → Nat → Int} (hB : Can (PR n) (h + 1) (k + 1) (RX B h (SQ v k (j - k)))) : ∀ (d m : Nat) (σ : St) (c : Nat), d < m → c + d = k → gF σ 25 = ((k + 1 : Nat) : Int) → gF σ 26 = (h : Nat) → gF σ 20 = PR n → (∀ i, i < N → gA σ 9 i = v i) → PM σ (k + 1) h c (RX B h (SQ v k (j - k))) → ∃ σ', (l_M_hasRule_22 F k14 m σ (N : Nat) (k : Nat) (j : Nat) ((c + 1 : Nat) : Int) = if mdB (PR n) (h + 1) k (RX B h (SQ v k (j - k))) = true then k14 σ' (N : Nat) (k : Nat) ((j + 1 : Nat) : Int) else some (0, σ')) ∧ MB σ' (h + 1) (k + 1) (el (PR n) (h + 1) k (RX B h (SQ v k (j - k)))).2.1 ∧ Can (PR n) (h + 1) (k + 1) (el (PR n) (h + 1) k (RX B h (SQ v k (j - k)))).2.1 ∧ (mdB (PR n) (h + 1) k (RX B h (SQ v k (j - k))) = true → gF σ' 26 = (((el (PR n) (h + 1) k (RX B h (SQ v k (j - k)))).1 : Nat) : Int)) ∧ (∀ q, q ≠ 26 → q ≠ 27 → gF σ' q = gF σ q) ∧ ∀ a, a ≠ 7 → a ≠ 8 → ∀ i, gA σ' a i = gA σ a i
  | _, 0, _, _, h, _, _, _, _, _, _ => by omega
  | 0, m + 1, σ, c, _, hc, h25, h26, h20, h9, hP => by
    have hck : c = k := by omega
    subst hck
    have lt := ixE_lt (wide := c + 1) (high := 47) (r := h) (k := c) (by omega) (by omega)
    have lt2 : (c + 1) * 47 ≤ 47 * 47 := Nat.mul_le_mul_right 47 (by omega)
    have lt3 : (c + 1) * (h + 1) ≤ 47 * 47 := Nat.mul_le_mul (by omega) (by omega)
    have e1 : (((c + 1 : Nat) : Int) * (h : Nat)) + ((c : Nat) : Int) = (((c + 1) * h + c : Nat) : Int) := ix_c
    have hs : RX B h (SQ v c (j - c)) h c = v j := by unfold RX SQ; rw [if_pos rfl, if_neg (by omega)]; congr 1; omega
    have hP' := PM_row (PM_set (v := v j) hP (by omega) hs.symm)
    have hMB : MB (sF (sA σ 7 ((c + 1) * h + c) (v j)) 26 ((h : Int) + 1)) (h + 1) (c + 1) (RX B h (SQ v c (j - c))) := fun r k' h1 h2 => hP' r k' h2 (by omega)
    obtain ⟨σ', k1, k2, k3, k4, k5, k6, k7⟩ := M_isMade (F := F) hF hn (σ := sF (sA σ 7 ((c + 1) * h + c) (v j)) 26 ((h : Int) + 1)) (high := h + 1) (cols := c) (A := RX B h (SQ v c (j - c))) (by omega) (by omega) (by omega) h25 (by rw [gF_sF, if_pos rfl]; omega) h20 hMB hB
    have hstep : l_M_hasRule_22 F k14 (m + 1) σ (N : Nat) (c : Nat) (j : Nat) ((c + 1 : Nat) : Int) = gd (rng (bi (mdB (PR n) (h + 1) c (RX B h (SQ v c (j - c)))))) (if bi (mdB (PR n) (h + 1) c (RX B h (SQ v c (j - c)))) = 0 then some (0, σ') else bs (sF σ' 26 (gF σ' 27)) fun σ15 => bv ((j : Int) + 1) fun x3_16 => k14 σ15 (N : Nat) (c : Nat) x3_16) := by
      show b_M_hasRule_22 F k14 _ σ _ _ _ _ = _
      unfold b_M_hasRule_22
      rw [gd_t (by omega), if_pos (by omega), gd_t (by omega), h25, h26, e1, gd_t (by omega), bs_s, Int.toNat_natCast, Int.toNat_natCast, h9 j hj, show gF (sA σ 7 ((c + 1) * h + c) (v j)) 26 = (h : Nat) from h26, bs_s, k1, bnd_s]
    cases q : mdB (PR n) (h + 1) c (RX B h (SQ v c (j - c))) with
    | false =>
      rw [q] at hstep
      refine ⟨σ', ?_, k2, k3, fun h => (by cases h), fun q1 h1 h2 => by rw [k6 q1 h2, gF_sF, if_neg h1]; rfl, fun a h1 h2 i => by rw [k7 a h1 h2, gA_sF, gA_sA, if_neg (fun w => h1 w.1)]⟩
      rw [hstep, show bi false = 0 from rfl, gd_t (by decide), if_pos rfl, if_neg Bool.false_ne_true]
    | true =>
      rw [q] at hstep
      refine ⟨sF σ' 26 (gF σ' 27), ?_, k2, k3, fun _ => by rw [gF_eq]; exact k4, fun q1 h1 h2 => by rw [gF_sF, if_neg h1, k6 q1 h2, gF_sF, if_neg h1]; rfl, fun a h1 h2 i => by rw [gA_sF, k7 a h1 h2, gA_sF, gA_sA, if_neg (fun w => h1 w.1)]⟩
      rw [hstep, show bi true = 1 from rfl, gd_t (by decide), if_neg (by decide), bs_s, bv_s, if_pos rfl]
      rfl
  | d + 1, m + 1, σ, c, hm, hc, h25, h26, h20, h9, hP => by
    have lt := ixE_lt (wide := k + 1) (high := 47) (r := h) (k := c) (by omega) (by omega)
    have lt2 : (k + 1) * 47 ≤ 47 * 47 := Nat.mul_le_mul_right 47 (by omega)
    have e1 : (((k + 1 : Nat) : Int) * (h : Nat)) + ((c + 1 : Nat) : Int) - 1 = (((k + 1) * h + c : Nat) : Int) := by
      have := @ix_c (k + 1) h c
      omega
    have e2 : Int.toNat ((j : Int) - ((c + 1 : Nat) : Int)) = j - (c + 1) := by omega
    have hs : RX B h (SQ v k (j - k)) h c = v (j - (c + 1)) := by unfold RX SQ; rw [if_pos rfl, if_pos (by omega)]; congr 1; omega
    obtain ⟨σ', k1, k2, k3, k4, k5, k6⟩ := M_hr22 hF hn k14 hN hk hj hh hB d m (sA σ 7 ((k + 1) * h + c) (v (j - (c + 1)))) (c + 1) (by omega) (by omega) h25 h26 h20 (fun i hi => by rw [gA_sA, if_neg (by omega)]; exact h9 i hi) (PM_set hP (by omega) hs.symm)
    refine ⟨σ', ?_, k2, k3, k4, k5, fun a h1 h2 i => by rw [k6 a h1 h2, gA_sA, if_neg (fun w => h1 w.1)]⟩
    rw [← k1]
    show b_M_hasRule_22 F k14 _ σ _ _ _ _ = _
    unfold b_M_hasRule_22
    rw [gd_t (by omega), if_neg (by omega), h25, h26, e1, bv_s, gd_t (by omega), gd_t (by omega), bs_s, bv_s, e2, Int.toNat_natCast, h9 _ (by omega)]
    rfl
end
