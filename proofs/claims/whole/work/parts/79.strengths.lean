/-! PURE PART: the strengths of a rule -/
def PC (σ : St) (k c i : Nat) (Q : Nat → Nat → Int) : Prop := ∀ r c', r < k → (c' < c ∨ (c' = c ∧ r < i)) → gA σ (103 + r) c' = Q r c'
theorem PC_set {σ : St} {k c i : Nat} {Q : Nat → Nat → Int} {v : Int} (h : PC σ k c i Q) (hv : v = Q i c) : PC (sA σ (103 + i) c v) k c (i + 1) Q := by
  intro r c' hr hc
  rw [gA_sA]
  by_cases q : r = i ∧ c' = c
  · rw [if_pos ⟨by omega, q.2⟩, hv, q.1, q.2]
  · rw [if_neg (by rintro ⟨w1, w2⟩; exact q ⟨by omega, w2⟩)]
    exact h r c' hr (by omega)
theorem PC_col {σ : St} {k c : Nat} {Q : Nat → Nat → Int} (h : PC σ k c k Q) : PC σ k (c + 1) 0 Q := fun r c' hr hc => h r c' hr (by omega)
theorem bt_test (P : Nat → Bool) {B d e : Nat} (hB : B = btS P d 0 0) (he : e < d) : landI ((B : Int) / 2 ^ (Int.toNat (e : Nat))) 1 = (if P e = true then 1 else 0) ∨ ¬ B < 2 ^ 62 := by
  by_cases hb : B < 2 ^ 62
  · left
    have e1 : ((B : Nat) : Int) / 2 ^ (Int.toNat (e : Nat)) = ((B / 2 ^ e : Nat) : Int) := by
      rw [Int.toNat_natCast]; simp
    have hle : B / 2 ^ e ≤ B := Nat.div_le_self _ _
    have h2 : B.testBit e = P e := by
      rw [hB, btS_bit, decide_eq_true (show 0 ≤ e by omega), decide_eq_true (show e < 0 + d by omega)]
      simp
    rw [e1, show (1 : Int) = ((1 : Nat) : Int) from rfl, landN _ 1 (by omega) (by omega), Nat.and_one_is_mod]
    rw [Nat.testBit_eq_decide_div_mod_eq] at h2
    cases q : P e with
    | true =>
      rw [q] at h2
      rw [of_decide_eq_true h2, if_pos rfl]
    | false =>
      rw [q] at h2
      have := of_decide_eq_false h2
      rw [if_neg Bool.false_ne_true]
      omega
  · exact Or.inr hb
section
variable {F : Nat} {s : Nat → Int}
theorem W_s64 (hI : MI s) (k38 : St → Int → Int → Int → Option (Int × St)) {P : Nat → Bool} {v : Nat → Int} {k c e : Nat} (hk : k ≤ 46) (hc : c < k) (he : (e : Int) < s 0) (hr : rtA P (s 0).toNat 0 c = e) : ∀ (d m : Nat) (σ : St) (i : Nat), WV σ s → d < m → i + d = k → PC σ k c i (SM s P k v) → ∃ σ', l_RuleFinder_findStrengths_lattice0_64 F k38 m σ (k : Nat) (c : Nat) (e : Nat) (i : Nat) = k38 σ' (k : Nat) ((c + 1 : Nat) : Int) ((e + 1 : Nat) : Int) ∧ PC σ' k (c + 1) 0 (SM s P k v) ∧ RFr σ σ'
  | _, 0, _, _, _, h, _, _ => by omega
  | 0, m + 1, σ, i, hV, _, hi, hP => by
    have : i = k := by omega
    subst this
    refine ⟨σ, ?_, PC_col hP, RFr.rf⟩
    show b_RuleFinder_findStrengths_lattice0_64 F k38 _ σ _ _ _ _ = _
    unfold b_RuleFinder_findStrengths_lattice0_64
    rw [gd_t (by omega), if_pos (by omega), bv_s, bv_s]; rfl
  | d + 1, m + 1, σ, i, hV, hm, hi, hP => by
    have i0 := hI.1
    have hfr : RFr σ (sA σ (103 + i) c (wvS s (e : Nat) (i : Nat))) := RFr_set
    have hs : wvS s (e : Nat) (i : Nat) = SM s P k v i c := by unfold SM; rw [if_pos hc, hr]
    obtain ⟨σ', k1, k2, k3⟩ := W_s64 hI k38 hk hc he hr d m (sA σ (103 + i) c (wvS s (e : Nat) (i : Nat))) (i + 1) (WV_fr hV hfr.W) (by omega) (by omega) (PC_set hP hs)
    refine ⟨σ', ?_, k2, hfr.tr k3⟩
    rw [← k1]
    show b_RuleFinder_findStrengths_lattice0_64 F k38 _ σ _ _ _ _ = _
    unfold b_RuleFinder_findStrengths_lattice0_64
    rw [gd_t (by omega), if_neg (by omega), gd_t (by omega), W_waveAt hI hV (by omega) (by omega), bnd_s, gd_t (by omega), bs_s, bv_s, Int.toNat_natCast, Int.toNat_natCast]; rfl
theorem W_s38 (hF : 100 ≤ F) (hI : MI s) {P : Nat → Bool} {v : Nat → Int} {k B : Nat} (hk : k ≤ 46) (hB : B = btS P (s 0).toNat 0 0) (hB2 : B < 2 ^ 60) : ∀ (d m : Nat) (σ : St) (e c : Nat), WV σ s → gF σ 451 = (B : Nat) → d < m → (e : Int) + d = s 0 → c + cD P d e = k → (∀ j, rtA P (s 0).toNat 0 (c + j) = rtA P d e j) → PC σ k c 0 (SM s P k v) → ∃ σ', l_RuleFinder_findStrengths_lattice0_38 F m σ (k : Nat) (c : Nat) (e : Nat) = l_RuleFinder_findStrengths_lattice0_106 F F σ' (k : Nat) 0 ∧ PC σ' k k 0 (SM s P k v) ∧ RFr σ σ'
  | _, 0, _, _, _, _, _, h, _, _, _, _ => by omega
  | 0, m + 1, σ, e, c, hV, h451, _, he, hc, hj, hP => by
    have w0 := hV.1.1
    have i0 := hI.1
    have hck : c = k := by unfold cD at hc; omega
    subst hck
    refine ⟨σ, ?_, hP, RFr.rf⟩
    show b_RuleFinder_findStrengths_lattice0_38 F _ σ _ _ _ = _
    unfold b_RuleFinder_findStrengths_lattice0_38
    rw [gd_t (by omega), if_pos (by omega)]
  | d + 1, m + 1, σ, e, c, hV, h451, hm, he, hc, hj, hP => by
    have w0 := hV.1.1
    have i0 := hI.1
    have hbt : landI ((B : Int) / 2 ^ (Int.toNat (e : Nat))) 1 = (if P e = true then 1 else 0) := by
      rcases bt_test P hB (e := e) (by omega) with h | h
      · exact h
      · exact absurd (by omega) h
    have hstep : l_RuleFinder_findStrengths_lattice0_38 F (m + 1) σ (k : Nat) (c : Nat) (e : Nat) = if P e = true then l_RuleFinder_findStrengths_lattice0_64 F (l_RuleFinder_findStrengths_lattice0_38 F m) F σ (k : Nat) (c : Nat) (e : Nat) 0 else l_RuleFinder_findStrengths_lattice0_38 F m σ (k : Nat) (c : Nat) ((e + 1 : Nat) : Int) := by
      show b_RuleFinder_findStrengths_lattice0_38 F _ σ _ _ _ = _
      unfold b_RuleFinder_findStrengths_lattice0_38
      rw [gd_t (by omega), if_neg (by omega), gd_t (by omega), h451, bv_s, hbt]
      by_cases q : P e = true
      · rw [if_pos q, if_pos q, gd_t (by decide), if_pos rfl]
      · rw [if_neg q, if_neg q, gd_t (by decide), if_neg (by decide), bv_s]; rfl
    rw [hstep]
    by_cases q : P e = true
    · rw [if_pos q]
      have hc' : c + (1 + cD P d (e + 1)) = k := by
        have : cD P (d + 1) e = (if P e = true then 1 else 0) + cD P d (e + 1) := rfl
        rw [this, if_pos q] at hc
        exact hc
      have hr0 : rtA P (s 0).toNat 0 c = e := by
        have := hj 0
        rw [Nat.add_zero] at this
        rw [this]
        unfold rtA
        rw [if_pos q, if_pos rfl]
      obtain ⟨s1, j1, j2, j3⟩ := W_s64 (F := F) hI (l_RuleFinder_findStrengths_lattice0_38 F m) (P := P) (v := v) hk (by omega) (by omega) hr0 k F σ 0 hV (by omega) (by omega) hP
      obtain ⟨σ', k1, k2, k3⟩ := W_s38 hF hI hk hB hB2 d m s1 (e + 1) (c + 1) (WV_fr hV j3.W) (by rw [j3.1]; exact h451) (by omega) (by omega) (by omega) (fun j => by
        have := hj (j + 1)
        rw [show c + 1 + j = c + (j + 1) by omega, this]
        conv => lhs; unfold rtA
        rw [if_pos q, if_neg (by omega), Nat.add_sub_cancel]) j2
      exact ⟨σ', j1.trans k1, k2, j3.tr k3⟩
    · rw [if_neg q]
      have hc' : c + (0 + cD P d (e + 1)) = k := by
        have : cD P (d + 1) e = (if P e = true then 1 else 0) + cD P d (e + 1) := rfl
        rw [this, if_neg q] at hc
        exact hc
      exact W_s38 hF hI hk hB hB2 d m σ (e + 1) c hV h451 (by omega) (by omega) (by omega) (fun j => by
        rw [hj j]
        conv => lhs; unfold rtA
        rw [if_neg q]) hP
theorem W_s106 (hF : 200 ≤ F) (hI : MI s) {P : Nat → Bool} {v : Nat → Int} {k : Nat} (hk : k ≤ 46) (hv : ∀ i, i < k → 0 ≤ v i ∧ v i < PR (s 0)) : ∀ (d m : Nat) (σ : St) (i : Nat), gF σ 1473 = PR (s 0) → (∀ j, j < k → gA σ 8 j = v j) → d < m → i + d = k → PC σ k k i (SM s P k v) → ∃ σ' r, l_RuleFinder_findStrengths_lattice0_106 F m σ (k : Nat) (i : Nat) = some (0, σ') ∧ r = mdB (PR (s 0)) k k (SM s P k v) ∧ (r = true → gF σ' 705 = (k : Int) ∧ ∀ c, c < k → gA σ' 12 c = shS (PR (s 0)) k k (SM s P k v) c) ∧ (∀ q, q ≠ 705 → gF σ' q = gF σ q) ∧ ∀ a, a < 103 → a ≠ 87 → a ≠ 12 → ∀ j, gA σ' a j = gA σ a j
  | _, 0, _, _, _, _, h, _, _ => by omega
  | 0, m + 1, σ, i, hp, h8, _, hi, hP => by
    obtain ⟨σ', k1, k2, k3, k4, k5, k6⟩ := W_solve_strengths (F := F) hF hI.1 (σ := σ) (high := k) (cols := k) (A := SM s P k v) (by omega) (by omega) (by omega) (fun r c h1 h2 => hP r c h1 (by omega)) (SM_can hI hv)
    refine ⟨σ', _, ?_, rfl, k3, k5, k6⟩
    show b_RuleFinder_findStrengths_lattice0_106 F _ σ _ _ = _
    unfold b_RuleFinder_findStrengths_lattice0_106
    rw [gd_t (by omega), if_pos (by omega), hp, k1, bnd_s]
  | d + 1, m + 1, σ, i, hp, h8, hm, hi, hP => by
    have hs : v i = SM s P k v i k := by unfold SM; rw [if_neg (by omega)]
    obtain ⟨σ', r, k1, k2, k3, k4, k5⟩ := W_s106 hF hI hk hv d m (sA σ (103 + i) k (v i)) (i + 1) hp (fun j hj => by rw [gA_sA, if_neg (by omega)]; exact h8 j hj) (by omega) (by omega) (PC_set hP hs)
    refine ⟨σ', r, ?_, k2, k3, k4, fun a h1 h2 h3 j => by rw [k5 a h1 h2 h3, gA_sA, if_neg (by omega)]⟩
    rw [← k1]
    show b_RuleFinder_findStrengths_lattice0_106 F _ σ _ _ = _
    unfold b_RuleFinder_findStrengths_lattice0_106
    rw [gd_t (by omega), if_neg (by omega), gd_t (by omega), gd_t (by omega), gd_t (by omega), bs_s, bv_s, Int.toNat_natCast, Int.toNat_natCast, h8 i (by omega)]; rfl
end
