/-! PURE PART: what makes the readings, the model's -/
def kmP (S : Nat) : Nat → Bool := fun h => !S.testBit h
/-- the rows of the heard hearers: the picked waves and the reading -/
def KM (s : Nat → Int) (k S : Nat) (pk g : Nat → Int) : Nat → Nat → Int := fun r c => if c < k then gnS s (rtA (kmP S) (s 1).toNat 0 r) * wvS s (pk c) (plS s (rtA (kmP S) (s 1).toNat 0 r)) % PR (s 0) else g (rtA (kmP S) (s 1).toNat 0 r)
section
variable {F : Nat} {s : Nat → Int}
theorem KM_can (hI : MI s) {k S : Nat} {pk g : Nat → Int} (hg : ∀ h : Nat, (h : Int) < s 1 → 0 ≤ g h ∧ g h < PR (s 0)) : Can (PR (s 0)) (cD (kmP S) (s 1).toNat 0) (k + 1) (KM s k S pk g) := by
  intro r c hr hc
  have hp := PR_b hI.1
  have b := rtA_b (kmP S) (s 1).toNat 0 r hr
  unfold KM
  split
  · exact modb (by omega)
  · exact hg _ (by omega)
theorem M_k38 (hI : MI s) (k14 : St → Int → Int → Int → Option (Int × St)) {k S r h : Nat} {pk g : Nat → Int} (hk : k ≤ 3) (hr : r < 10) (hh : (h : Int) < s 1) (hrt : rtA (kmP S) (s 1).toNat 0 r = h) (hpk : ∀ c, c < k → 0 ≤ pk c ∧ pk c < s 0) : ∀ (d m : Nat) (σ : St) (c : Nat), MV σ s → gF σ 25 = ((k + 1 : Nat) : Int) → gF σ 26 = (r : Nat) → (∀ c, c < k → gA σ 14 c = pk c) → (∀ h : Nat, (h : Int) < s 1 → gA σ 12 h = g h) → d < m → c + d = k → PM σ (k + 1) r c (KM s k S pk g) → ∃ σ', l_M_makes_38 F k14 m σ (k : Nat) (S : Nat) (h : Nat) (c : Nat) = k14 σ' (k : Nat) (S : Nat) ((h + 1 : Nat) : Int) ∧ PM σ' (k + 1) (r + 1) 0 (KM s k S pk g) ∧ gF σ' 26 = ((r + 1 : Nat) : Int) ∧ (∀ q, q ≠ 26 → gF σ' q = gF σ q) ∧ ∀ a, a ≠ 7 → ∀ i, gA σ' a i = gA σ a i
  | _, 0, _, _, _, _, _, _, _, h, _, _ => by omega
  | 0, m + 1, σ, c, hV, h25, h26, h14, h12, _, hc, hP => by
    have i1 := hI.2.1
    have hck : c = k := by omega
    subst hck
    have lt := ixE_lt (wide := c + 1) (high := 47) (r := r) (k := c) (by omega) (by omega)
    have lt2 : (c + 1) * 47 ≤ 47 * 47 := Nat.mul_le_mul_right 47 (by omega)
    have e1 : (((c + 1 : Nat) : Int) * (r : Nat)) + ((c : Nat) : Int) = (((c + 1) * r + c : Nat) : Int) := ix_c
    have hs : g h = KM s c S pk g r c := by unfold KM; rw [if_neg (by omega), hrt]
    refine ⟨sF (sA σ 7 ((c + 1) * r + c) (g h)) 26 ((r : Int) + 1), ?_, fun r' k' h1 h2 => PM_row (PM_set hP (by omega) hs) r' k' h1 h2, by rw [gF_eq]; omega, fun q hq => by rw [gF_sF, if_neg hq]; rfl, fun a ha i => by rw [gA_sF, gA_sA, if_neg (fun w => ha w.1)]⟩
    show b_M_makes_38 F k14 _ σ _ _ _ _ = _
    unfold b_M_makes_38
    rw [gd_t (by omega), if_pos (by omega), gd_t (by omega), h25, h26, e1, gd_t (by omega), bs_s, Int.toNat_natCast, Int.toNat_natCast, h12 h hh, show gF (sA σ 7 ((c + 1) * r + c) (g h)) 26 = (r : Nat) from h26, bs_s, bv_s]; rfl
  | d + 1, m + 1, σ, c, hV, h25, h26, h14, h12, hm, hc, hP => by
    have i0 := hI.1
    have i1 := hI.2.1
    have hp := PR_b i0
    have b := hI.2.2.2.2.2.2.1 (h : Int) (by omega) (by omega)
    have pb := hpk c (by omega)
    have hw := wvS_b hI (pk c) (plS s h)
    have q1 := mulb (a := gnS s h) (b := wvS s (pk c) (plS s h)) (A := 1500) (B := 1500) (by omega) (by omega) (by omega) (by omega)
    have lt := ixE_lt (wide := k + 1) (high := 47) (r := r) (k := c) (by omega) (by omega)
    have lt2 : (k + 1) * 47 ≤ 47 * 47 := Nat.mul_le_mul_right 47 (by omega)
    have e1 : (((k + 1 : Nat) : Int) * (r : Nat)) + ((c : Nat) : Int) = (((k + 1) * r + c : Nat) : Int) := ix_c
    have hs : gnS s h * wvS s (pk c) (plS s h) % PR (s 0) = KM s k S pk g r c := by unfold KM; rw [if_pos (by omega), hrt]
    obtain ⟨σ', k1, k2, k3, k4, k5⟩ := M_k38 hI k14 hk hr hh hrt hpk d m (sA σ 7 ((k + 1) * r + c) (gnS s h * wvS s (pk c) (plS s h) % PR (s 0))) (c + 1) (MV_7 hV) h25 h26 (fun c hc => by rw [gA_sA, if_neg (by omega)]; exact h14 c hc) (fun h hh => by rw [gA_sA, if_neg (by omega)]; exact h12 h hh) (by omega) (by omega) (PM_set hP (by omega) hs)
    refine ⟨σ', ?_, k2, k3, k4, fun a ha i => by rw [k5 a ha, gA_sA, if_neg (fun w => ha w.1)]⟩
    rw [← k1]
    show b_M_makes_38 F k14 _ σ _ _ _ _ = _
    unfold b_M_makes_38
    rw [gd_t (by omega), if_neg (by omega), M_gain hI hV (by omega), bnd_s, gd_t (by omega), M_place hI hV (by omega), bnd_s, Int.toNat_natCast, h14 c (by omega), M_waveOf hI hV (by omega) b.1, bnd_s, gd_t ⟨by omega, by have := hV.2.1; omega, by have := hV.2.1; omega⟩, hV.2.1, tmE q1.1, bv_s, h25, h26, e1, gd_t (by omega), bs_s, bv_s, Int.toNat_natCast]; rfl
end
