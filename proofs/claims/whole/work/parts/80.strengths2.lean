/-! PURE PART: the strengths of a rule, the model's -/
section
variable {F : Nat} {s : Nat → Int}
theorem MV_7 {σ : St} {i : Nat} {v : Int} (h : MV σ s) : MV (sA σ 7 i v) s := h
theorem M_178 (hF : 100 ≤ F) (hI : MI s) (k166 : St → Int → Int → Option (Int × St)) {P : Nat → Bool} {v : Nat → Int} {k B r : Nat} (hk : k ≤ 46) (hr : r < k) (hB : B = btS P (s 0).toNat 0 0) (hB2 : B < 2 ^ 60) : ∀ (d m : Nat) (σ : St) (e c : Nat), MV σ s → gF σ 33 = (B : Nat) → gF σ 25 = ((k + 1 : Nat) : Int) → (∀ j, j < k → gA σ 9 j = v j) → d < m → (e : Int) + d = s 0 → c + cD P d e = k → (∀ j, rtA P (s 0).toNat 0 (c + j) = rtA P d e j) → PM σ (k + 1) r c (SM s P k v) → ∃ σ', l_M_keepRule_178 F k166 m σ (k : Nat) (r : Nat) (c : Nat) (e : Nat) = k166 σ' (k : Nat) ((r + 1 : Nat) : Int) ∧ PM σ' (k + 1) (r + 1) 0 (SM s P k v) ∧ (∀ q, gF σ' q = gF σ q) ∧ ∀ a, a ≠ 7 → ∀ i, gA σ' a i = gA σ a i
  | _, 0, _, _, _, _, _, _, _, h, _, _, _, _ => by omega
  | 0, m + 1, σ, e, c, hV, h33, h25, h9, _, he, hc, hj, hP => by
    have v0 : gA σ 2 (Int.toNat 0) = s 0 := hV.1 0
    have i0 := hI.1
    have hck : c = k := by unfold cD at hc; omega
    subst hck
    have lt := ixE_lt (wide := c + 1) (high := 47) (r := r) (k := c) (by omega) (by omega)
    have lt2 : (c + 1) * 47 ≤ 47 * 47 := Nat.mul_le_mul_right 47 (by omega)
    have e1 : (((c + 1 : Nat) : Int) * (r : Nat)) + ((c : Nat) : Int) = (((c + 1) * r + c : Nat) : Int) := ix_c
    have hs : v r = SM s P c v r c := by unfold SM; rw [if_neg (by omega)]
    refine ⟨sA σ 7 ((c + 1) * r + c) (v r), ?_, PM_row (PM_set hP (by omega) hs), fun _ => rfl, fun a ha i => by rw [gA_sA, if_neg (fun w => ha w.1)]⟩
    show b_M_keepRule_178 F k166 _ σ _ _ _ _ = _
    unfold b_M_keepRule_178
    rw [gd_t (by decide), gd_t (by omega), if_pos (by omega), gd_t (by omega), h25, e1, gd_t (by omega), bs_s, bv_s, Int.toNat_natCast, Int.toNat_natCast, h9 r hr]; rfl
  | d + 1, m + 1, σ, e, c, hV, h33, h25, h9, hm, he, hc, hj, hP => by
    have v0 : gA σ 2 (Int.toNat 0) = s 0 := hV.1 0
    have i0 := hI.1
    have hbt : landI ((B : Int) / 2 ^ (Int.toNat (e : Nat))) 1 = (if P e = true then 1 else 0) := by
      rcases bt_test P hB (e := e) (by omega) with h | h
      · exact h
      · exact absurd (by omega) h
    have hstep : l_M_keepRule_178 F k166 (m + 1) σ (k : Nat) (r : Nat) (c : Nat) (e : Nat) = if P e = true then (bnd (f_M_waveOf F σ (e : Nat) (r : Nat)) fun r17 σ18 => gd (inb (((gF σ18 25) * (r : Nat)) + (c : Nat)) 2800) (bs (sA σ18 7 (Int.toNat (((gF σ18 25) * (r : Nat)) + (c : Nat))) r17) fun σ19 => bv ((c : Int) + 1) fun x5_20 => bv ((e : Int) + 1) fun x6_21 => l_M_keepRule_178 F k166 m σ19 (k : Nat) (r : Nat) x5_20 x6_21)) else l_M_keepRule_178 F k166 m σ (k : Nat) (r : Nat) (c : Nat) ((e + 1 : Nat) : Int) := by
      show b_M_keepRule_178 F k166 _ σ _ _ _ _ = _
      unfold b_M_keepRule_178
      rw [gd_t (by decide), gd_t (by omega), if_neg (by omega), gd_t (by omega), h33, bv_s, hbt]
      by_cases q : P e = true
      · rw [if_pos q, if_pos q, gd_t (by decide), if_neg (by decide)]
        rw [M_waveOf hI hV (by omega) (by omega)]
        rfl
      · rw [if_neg q, if_neg q, gd_t (by decide), if_pos rfl, bv_s]; rfl
    rw [hstep]
    by_cases q : P e = true
    · rw [if_pos q]
      have hc' : c + (1 + cD P d (e + 1)) = k := by
        have : cD P (d + 1) e = (if P e = true then 1 else 0) + cD P d (e + 1) := rfl
        rw [this, if_pos q] at hc
        exact hc
      have hr0 : rtA P (s 0).toNat 0 c = e := by
        have := hj 0
        rw [Nat.add_zero] at this
        rw [this]
        unfold rtA
        rw [if_pos q, if_pos rfl]
      have lt := ixE_lt (wide := k + 1) (high := 47) (r := r) (k := c) (by omega) (by omega)
      have lt2 : (k + 1) * 47 ≤ 47 * 47 := Nat.mul_le_mul_right 47 (by omega)
      have e1 : (((k + 1 : Nat) : Int) * (r : Nat)) + ((c : Nat) : Int) = (((k + 1) * r + c : Nat) : Int) := ix_c
      have hs : wvS s (e : Nat) (r : Nat) = SM s P k v r c := by unfold SM; rw [if_pos (by omega), hr0]
      obtain ⟨σ', k1, k2, k3, k4⟩ := M_178 hF hI k166 hk hr hB hB2 d m (sA σ 7 ((k + 1) * r + c) (wvS s (e : Nat) (r : Nat))) (e + 1) (c + 1) (MV_7 hV) h33 h25 (fun j hj => by rw [gA_sA, if_neg (by omega)]; exact h9 j hj) (by omega) (by omega) (by omega) (fun j => by
        have := hj (j + 1)
        rw [show c + 1 + j = c + (j + 1) by omega, this]
        conv => lhs; unfold rtA
        rw [if_pos q, if_neg (by omega), Nat.add_sub_cancel]) (PM_set hP (by omega) hs)
      refine ⟨σ', ?_, k2, fun q => k3 q, fun a ha i => by rw [k4 a ha, gA_sA, if_neg (fun w => ha w.1)]⟩
      rw [M_waveOf hI hV (by omega) (by omega), bnd_s, h25, e1, gd_t (by omega), bs_s, bv_s, bv_s, Int.toNat_natCast]
      exact k1
    · rw [if_neg q]
      have hc' : c + (0 + cD P d (e + 1)) = k := by
        have : cD P (d + 1) e = (if P e = true then 1 else 0) + cD P d (e + 1) := rfl
        rw [this, if_neg q] at hc
        exact hc
      exact M_178 hF hI k166 hk hr hB hB2 d m σ (e + 1) c hV h33 h25 h9 (by omega) (by omega) (by omega) (fun j => by
        rw [hj j]
        conv => lhs; unfold rtA
        rw [if_neg q]) hP
theorem M_273 {n : Int} (hn : wayN n) {k : Nat} {A : Nat → Nat → Int} (hk : k ≤ 46) : ∀ (d m : Nat) (σ : St) (i : Nat), d < m → i + d = k → gF σ 25 = ((k + 1 : Nat) : Int) → MB σ k (k + 1) (el (PR n) k k A).2.1 → (∀ c, c < k → gA σ 8 c = (el (PR n) k k A).2.2.1 c) → ∃ σ', l_M_keepRule_273 F m σ (k : Nat) (i : Nat) = some (0, σ') ∧ (∀ c, i ≤ c → c < k → gA σ' 11 c = shS (PR n) k k A c) ∧ (∀ c, c < i → gA σ' 11 c = gA σ 11 c) ∧ (∀ q, gF σ' q = gF σ q) ∧ ∀ a, a ≠ 11 → ∀ i, gA σ' a i = gA σ a i
  | _, 0, _, _, h, _, _, _, _ => by omega
  | 0, m + 1, σ, i, _, hi, h25, hM, hl => by
    refine ⟨σ, ?_, fun c h1 h2 => by omega, fun _ _ => rfl, fun _ => rfl, fun _ _ _ => rfl⟩
    show b_M_keepRule_273 F _ σ _ _ = _
    unfold b_M_keepRule_273
    rw [gd_t (by omega), if_pos (by omega)]
  | d + 1, m + 1, σ, i, hm, hi, h25, hM, hl => by
    have lt3 : (k + 1) * k ≤ 47 * 47 := Nat.mul_le_mul (by omega) (by omega)
    obtain ⟨σ', k1, k2, k3, k4, k5⟩ := M_273 hn hk d m (sA σ 11 i (shS (PR n) k k A i)) (i + 1) (by omega) (by omega) h25 (fun r c h1 h2 => by rw [gA_sA, if_neg (by omega)]; exact hM r c h1 h2) (fun c hc => by rw [gA_sA, if_neg (by omega)]; exact hl c hc)
    refine ⟨σ', ?_, fun c h1 h2 => ?_, fun c hc => by rw [k3 c (by omega), gA_sA, if_neg (by omega)], fun q => k4 q, fun a ha i' => by rw [k5 a ha, gA_sA, if_neg (fun w => ha w.1)]⟩
    · rw [← k1]
      show b_M_keepRule_273 F _ σ _ _ = _
      unfold b_M_keepRule_273
      rw [gd_t (by omega), if_neg (by omega), M_share hn (high := k) (cols := k) (c := i) (A := A) (by omega) (by omega) (by omega) h25 hM hl, bnd_s, gd_t (by omega), bs_s, bv_s, Int.toNat_natCast]; rfl
    · by_cases z : c = i
      · rw [z, k3 i (by omega), gA_sA, if_pos ⟨rfl, rfl⟩]
      · exact k2 c (by omega) h2
theorem M_166 (hF : 3000 ≤ F) (hI : MI s) {P : Nat → Bool} {v : Nat → Int} {k B : Nat} (hk : k ≤ 46) (hB : B = btS P (s 0).toNat 0 0) (hB2 : B < 2 ^ 60) (hcnt : cD P (s 0).toNat 0 = k) (hv : ∀ i, i < k → 0 ≤ v i ∧ v i < PR (s 0)) : ∀ (d m : Nat) (σ : St) (r : Nat), MV σ s → gF σ 33 = (B : Nat) → gF σ 25 = ((k + 1 : Nat) : Int) → gF σ 26 = (k : Nat) → (∀ j, j < k → gA σ 9 j = v j) → d < m → r + d = k → PM σ (k + 1) r 0 (SM s P k v) → ∃ σ', l_M_keepRule_166 F m σ (k : Nat) (r : Nat) = some (0, σ') ∧ (∀ c, c < k → gA σ' 11 c = shS (PR (s 0)) k k (SM s P k v) c) ∧ (∀ q, q ≠ 27 → gF σ' q = gF σ q) ∧ ∀ a, a ≠ 7 → a ≠ 8 → a ≠ 11 → ∀ i, gA σ' a i = gA σ a i
  | _, 0, _, _, _, _, _, _, _, h, _, _ => by omega
  | 0, m + 1, σ, r, hV, h33, h25, h26, h9, _, hr, hP => by
    have i0 := hI.1
    have lt3 : (k + 1) * k ≤ 47 * 47 := Nat.mul_le_mul (by omega) (by omega)
    have hrk : r = k := by omega
    subst hrk
    obtain ⟨s1, j1, j2, j3, j4, j5, j6, j7⟩ := M_steps (F := F) hF i0 (σ := σ) (high := r) (wide := r + 1) (cols := r) (A := SM s P r v) (by omega) (by omega) (by omega) (by omega) h25 h26 hV.2.1 (fun r' c h1 h2 => hP r' c h2 (by omega)) (SM_can hI hv)
    obtain ⟨σ', k1, k2, k3, k4, k5⟩ := M_273 (F := F) i0 (k := r) (A := SM s P r v) hk r F s1 0 (by omega) (by omega) (by rw [j6 25 (by omega)]; exact h25) j2 j5
    refine ⟨σ', ?_, fun c hc => k2 c (by omega) hc, fun q hq => by rw [k4, j6 q hq], fun a h1 h2 h3 i => by rw [k5 a h3, j7 a h1 h2]⟩
    show b_M_keepRule_166 F _ σ _ _ = _
    unfold b_M_keepRule_166
    rw [gd_t (by omega), if_pos (by omega), j1, bnd_s]
    exact k1
  | d + 1, m + 1, σ, r, hV, h33, h25, h26, h9, hm, hr, hP => by
    obtain ⟨s1, j1, j2, j3, j4⟩ := M_178 (F := F) (by omega) hI (l_M_keepRule_166 F m) (P := P) (v := v) (r := r) hk (by omega) hB hB2 (s 0).toNat F σ 0 0 hV h33 h25 h9 (by have := hI.1; omega) (by have := hI.1; omega) (by omega) (fun j => by rw [Nat.zero_add]) hP
    obtain ⟨σ', k1, k2, k3, k4⟩ := M_166 hF hI hk hB hB2 hcnt hv d m s1 (r + 1) (by
      refine ⟨fun i => by rw [j4 2 (by omega)]; exact hV.1 i, by rw [j3]; exact hV.2.1, by rw [j3]; exact hV.2.2.1, fun i hi => by rw [j4 6 (by omega)]; exact hV.2.2.2 i hi⟩) (by rw [j3]; exact h33) (by rw [j3]; exact h25) (by rw [j3]; exact h26) (fun j hj => by rw [j4 9 (by omega)]; exact h9 j hj) (by omega) (by omega) j2
    refine ⟨σ', ?_, k2, fun q hq => (k3 q hq).trans (j3 q), fun a h1 h2 h3 i => (k4 a h1 h2 h3 i).trans (j4 a h1 i)⟩
    rw [← k1, ← j1]
    show b_M_keepRule_166 F _ σ _ _ = _
    unfold b_M_keepRule_166
    rw [gd_t (by omega), if_neg (by omega)]; rfl
end
