/-! PURE PART: readings of the tape; comes, mend -/
theorem SC_view {σ1 σ2 : St} {s : Nat → Int} (hI : MI s) (hW : WV σ1 s) (hV : MV σ2 s) : SC σ1 σ2 0 2 0 ∧ RM σ2 := by
  obtain ⟨i0, i1, i2, i3, i4, i5, i6, i7, i8, i9, i10⟩ := hI
  obtain ⟨w0, w1, w2, w3, w4, w5, w6, w7, w8, w9⟩ := hW
  obtain ⟨v, v20, v21, v6⟩ := hV
  have z : ∀ a : Nat, ((a : Int)).toNat = a := fun a => by omega
  refine ⟨⟨⟨by rw [v]; exact i0, by rw [v]; exact w0⟩, by rw [v]; exact ⟨w1, i1⟩, by rw [v]; exact ⟨w2, i2⟩, by rw [v]; exact ⟨w3, i3⟩, by rw [v]; exact ⟨w4, i4⟩, by rw [v]; exact ⟨w5, i5⟩, fun h hh => ?_, fun i j hij hj => ?_, fun k hk => ?_, fun k hk => ?_, fun k hk => ?_⟩, by rw [RM, v]; exact ⟨v20, v21, v6⟩⟩
  · rw [v] at hh
    have a := i6 h (by omega) hh
    have b := w6 h (by omega) hh
    simp only [plS, gnS, z] at a b
    simp only [v, Nat.zero_add]
    exact ⟨b.1, a.1, b.2, a.2⟩
  · rw [v] at hj
    have a := i7 i j (by omega) (by omega) hj
    simp only [plS, z] at a
    simp only [v, Nat.zero_add]
    exact a
  · rw [v] at hk
    have a := i8 k (by omega) hk
    have b := w7 k (by omega) hk
    simp only [stS, ldS, drS, flS, z] at a b
    simp only [v, Nat.zero_add]
    exact ⟨⟨b.1, a.1⟩, ⟨b.2.1, a.2.1⟩, ⟨b.2.2.1, a.2.2.1⟩, b.2.2.2, a.2.2.2⟩
  · rw [v] at hk
    have a := i9 k (by omega) hk
    have b := w8 k (by omega) hk
    simp only [xS, yS, z] at a b
    simp only [v, Nat.zero_add]
    exact ⟨⟨b.1, a.1⟩, b.2, a.2⟩
  · rw [v] at hk
    have a := i10 k (by omega) hk
    have b := w9 k (by omega) hk
    simp only [frS, dxS, dyS, z] at a b
    simp only [v, Nat.zero_add]
    exact ⟨⟨b.1, a.1⟩, ⟨b.2.1, a.2.1⟩, b.2.2, a.2.2⟩
section
variable {F : Nat}
def gvS (σ2 : St) (p : Int) (k : Nat) : Int := (256 * (gA σ2 1 (2 * k) % 256) + gA σ2 1 (2 * k + 1) % 256) % p
theorem tdiv2 {x : Int} (h : 0 ≤ x) : Int.tdiv x 2 = x / 2 := Int.tdiv_eq_ediv_of_nonneg h
theorem W_take (σ2 : St) {p : Int} (hp : 1001 ≤ p ∧ p ≤ 1500) (L : Nat) (hL : L ≤ 20) : ∀ (d n : Nat) (σ : St) (k : Nat), d < n → k + d = L / 2 → gF σ 1473 = p → (∀ i, i < 940 → gA σ 2 i = gA σ2 1 i % 256) → ∃ σ', l_W_takeReadings_34 F n σ (L : Nat) (k : Nat) = some (((L / 2 : Nat) : Int), σ') ∧ (∀ q, gF σ' q = gF σ q) ∧ (∀ a, a ≠ 94 → ∀ i, gA σ' a i = gA σ a i) ∧ ∀ i, gA σ' 94 i = if k ≤ i ∧ i < L / 2 then gvS σ2 p i else gA σ 94 i
  | _, 0, _, _, h, _, _, _ => by omega
  | 0, n + 1, σ, k, _, hd, hg, hb => by
    simp only [l_W_takeReadings_34, b_W_takeReadings_34, bv, bs]
    rw [gd_t (by omega), tdiv2 (by omega), gd_t (by omega), if_pos (by omega), gd_t (by omega)]
    exact ⟨σ, by congr 2, fun _ => rfl, fun _ _ _ => rfl, fun i => by rw [if_neg (by omega)]⟩
  | d + 1, n + 1, σ, k, hn, hd, hg, hb => by
    have h1 := hb (2 * k) (by omega)
    have h2 := hb (2 * k + 1) (by omega)
    have e1 : gA σ 2 (Int.toNat (2 * (k : Int))) = gA σ2 1 (2 * k) % 256 := by rw [← h1]; congr 1
    have e2 : gA σ 2 (Int.toNat (2 * (k : Int) + 1)) = gA σ2 1 (2 * k + 1) % 256 := by rw [← h2]; congr 1
    simp only [l_W_takeReadings_34, b_W_takeReadings_34, bv, bs]
    rw [gd_t (by omega), tdiv2 (by omega), gd_t (by omega), if_neg (by omega), gd_t (by omega), gd_t (by omega), e1, e2, hg, gd_t ⟨by omega, by omega, by omega⟩, gd_t (by omega), tmE (by omega)]
    have e3 : (gA σ2 1 (2 * k) % 256 * 256 + gA σ2 1 (2 * k + 1) % 256) % p = gvS σ2 p k := by unfold gvS; rw [Int.mul_comm]
    rw [e3]
    obtain ⟨σ', k1, k2, k3, k4⟩ := W_take σ2 hp L hL d n (sA σ 94 k (gvS σ2 p k)) (k + 1) (by omega) (by omega) hg hb
    refine ⟨σ', ?_, k2, fun a ha i => ?_, fun i => ?_⟩
    · rw [← k1]; rfl
    · rw [k3 a ha, gA_sA, if_neg (fun e => ha e.1)]
    · rw [k4]
      simp only [gA_sA]
      grind
theorem M_octet {σ : St} {k : Int} (hk : 0 ≤ k ∧ k < 940) : f_M_octet F σ k = some (gA σ 1 k.toNat % 256, σ) := by
  unfold f_M_octet
  rw [gd_t (by omega)]
  show some (iandI _ 255, σ) = _
  rw [iand255]
theorem M_take {p : Int} (hp : 1001 ≤ p ∧ p ≤ 1500) (L : Nat) (hL : L ≤ 940) : ∀ (d n : Nat) (σ : St) (k : Nat), d < n → k + d = L / 2 → gF σ 20 = p → gF σ 3 = (L : Nat) → ∃ σ', l_M_takesReadings_21 F n σ (k : Nat) = some (((L / 2 : Nat) : Int), σ') ∧ (∀ q, gF σ' q = gF σ q) ∧ (∀ a, a ≠ 12 → ∀ i, gA σ' a i = gA σ a i) ∧ ∀ i, gA σ' 12 i = if k ≤ i ∧ i < L / 2 then gvS σ p i else gA σ 12 i
  | _, 0, _, _, h, _, _, _ => by omega
  | 0, n + 1, σ, k, _, hd, hg, hb => by
    simp only [l_M_takesReadings_21, b_M_takesReadings_21, bv, bs]
    rw [hb, gd_t (by omega), tdiv2 (by omega), gd_t (by omega), if_pos (by omega), gd_t (by omega)]
    exact ⟨σ, by congr 2, fun _ => rfl, fun _ _ _ => rfl, fun i => by rw [if_neg (by omega)]⟩
  | d + 1, n + 1, σ, k, hn, hd, hg, hb => by
    have hbb : ∀ i : Nat, 0 ≤ gA σ 1 i % 256 ∧ gA σ 1 i % 256 ≤ 255 := fun i => by omega
    have b1 := hbb (2 * k)
    have b2 := hbb (2 * k + 1)
    simp only [l_M_takesReadings_21, b_M_takesReadings_21, bv, bs]
    rw [hb, gd_t (by omega), tdiv2 (by omega), gd_t (by omega), if_neg (by omega), M_octet (by omega), bnd_s, M_octet (by omega), bnd_s, show Int.toNat (2 * (k : Int)) = 2 * k by omega, show Int.toNat (2 * (k : Int) + 1) = 2 * k + 1 by omega, hg, gd_t ⟨by omega, by omega, by omega⟩, gd_t (by omega), tmE (by omega)]
    have e3 : (256 * (gA σ 1 (2 * k) % 256) + gA σ 1 (2 * k + 1) % 256) % p = gvS σ p k := rfl
    rw [e3]
    obtain ⟨σ', k1, k2, k3, k4⟩ := M_take hp L hL d n (sA σ 12 k (gvS σ p k)) (k + 1) (by omega) (by omega) hg hb
    have e4 : ∀ i, gvS (sA σ 12 k (gvS σ p k)) p i = gvS σ p i := fun i => by
      unfold gvS
      rw [gA_sA, gA_sA, if_neg (by omega), if_neg (by omega)]
    refine ⟨σ', ?_, k2, fun a ha i => ?_, fun i => ?_⟩
    · rw [← k1]; rfl
    · rw [k3 a ha, gA_sA, if_neg (fun e => ha e.1)]
    · rw [k4, e4]
      simp only [gA_sA]
      grind
theorem take_both (hF : 1000 ≤ F) {x : Bool} {σ1 σ2 : St} (hR : RR x σ1 σ2) : ∃ r1 r2 σ1' σ2', f_W_takeReadings F σ1 = some (r1, σ1') ∧ f_M_takesReadings F (sF σ2 0 0) = some (r2, σ2') ∧ WFr (sF σ1 65 0) σ1' ∧ MFr (sF σ2 2 0) σ2' ∧ (((r1 = r2 ∧ 0 ≤ r1 ∧ r1 ≤ 10) ∧ ∀ k : Nat, (k : Int) < r1 → gA σ1' 94 k = gA σ2' 12 k ∧ 0 ≤ gA σ2' 12 k ∧ gA σ2' 12 k < PR (svw σ2 0)) ∨ (r1 = -1 ∧ (r2 = -1 ∨ (11 ≤ r2 ∧ r2 ≤ 1000)))) := by
  obtain ⟨hI, hW, hV⟩ := RR_view hR
  obtain ⟨t1, t2, t3, t4⟩ := hR.1
  have hp := PR_b hI.1
  obtain ⟨L, hL⟩ := Int.eq_ofNat_of_zero_le t2
  have hWW : gF (sF σ1 65 0) 1473 = PR (svw σ2 0) := hW.1.2.1
  have hm : MFr (sF σ2 2 0) (sF (sF (sF (sF (sF σ2 0 0) 3 (L : Nat)) 2 0) 4 0) 5 940) := by
    refine ⟨fun q hq => ?_, fun _ _ _ => rfl⟩
    have n0 : q ≠ 0 := by intro e; subst e; cases hq
    have n3 : q ≠ 3 := by intro e; subst e; cases hq
    have n4 : q ≠ 4 := by intro e; subst e; cases hq
    have n5 : q ≠ 5 := by intro e; subst e; cases hq
    simp only [gF_sF, if_neg n0, if_neg n3, if_neg n4, if_neg n5]
  have hM0 : f_M_taken F (sF σ2 0 0) 940 = some (0, sF (sF (sF (sF (sF σ2 0 0) 3 (L : Nat)) 2 0) 4 0) 5 940) := by
    unfold f_M_taken
    simp only [bs]
    rw [show gF (sF σ2 0 0) 2 = (L : Int) from hL]
  have hM3 : gF (sF (sF (sF (sF (sF σ2 0 0) 3 (L : Nat)) 2 0) 4 0) 5 940) 3 = (L : Int) := by simp [gF_sF]
  have hM20 : gF (sF (sF (sF (sF (sF σ2 0 0) 3 (L : Nat)) 2 0) 4 0) 5 940) 20 = PR (svw σ2 0) := hV.2.1
  have tm2 : Int.tmod (L : Int) 2 = ((L % 2 : Nat) : Int) := by rw [tmE (by omega)]; simp
  have td2 : Int.tdiv (L : Int) 2 = ((L / 2 : Nat) : Int) := by rw [tdiv2 (by omega)]; simp
  have hW : f_W_takeReadings F σ1 = if L % 2 = 0 then (if L / 2 ≤ 10 then l_W_takeReadings_34 F F (sF σ1 65 0) (L : Nat) 0 else some (-1, sF σ1 65 0)) else some (-1, sF σ1 65 0) := by
    unfold f_W_takeReadings
    simp only [bv, bs, t1, hL, tm2, td2]
    rw [gd_t (by omega), gd_t (by omega)]
    by_cases c : L % 2 = 0
    · rw [if_pos (by omega), if_pos c, gd_t (by omega), gd_t (by omega)]
      by_cases c2 : L / 2 ≤ 10
      · rw [if_pos (by omega), if_pos c2]
      · rw [if_neg (by omega), if_neg c2]
    · rw [if_neg (by omega), if_neg c]
  have hMm : f_M_takesReadings F (sF σ2 0 0) = if L % 2 = 0 then l_M_takesReadings_21 F F (sF (sF (sF (sF (sF σ2 0 0) 3 (L : Nat)) 2 0) 4 0) 5 940) 0 else some (-1, sF (sF (sF (sF (sF σ2 0 0) 3 (L : Nat)) 2 0) 4 0) 5 940) := by
    unfold f_M_takesReadings
    rw [hM0, bnd_s]
    simp only [hM3, tm2]
    rw [gd_t (by omega), gd_t (by omega)]
    by_cases c : L % 2 = 0
    · rw [if_neg (by omega), if_pos c]
    · rw [if_pos (by omega), if_neg c]
  rw [hW, hMm]
  by_cases c : L % 2 = 0
  · rw [if_pos c, if_pos c]
    obtain ⟨s2, k1, k2, k3, k4⟩ := M_take (F := F) hp L (by omega) (L / 2) F _ 0 (by omega) (by omega) hM20 hM3
    have hfr : MFr (sF σ2 2 0) s2 := hm.tr ⟨fun q _ => k2 q, fun a ha i => k3 a (by intro e; subst e; cases ha) i⟩
    by_cases c2 : L / 2 ≤ 10
    · rw [if_pos c2]
      obtain ⟨s1, j1, j2, j3, j4⟩ := W_take (F := F) σ2 hp L (by omega) (L / 2) F (sF σ1 65 0) 0 (by omega) (by omega) hWW t4
      refine ⟨_, _, s1, s2, j1, k1, ⟨fun q _ => j2 q, fun a ha i => j3 a (by intro e; subst e; cases ha) i⟩, hfr, Or.inl ⟨⟨rfl, by omega, by omega⟩, fun k hk => ?_⟩⟩
      rw [j4, k4, if_pos (by omega), if_pos (by omega)]
      exact ⟨rfl, modb (by omega)⟩
    · rw [if_neg c2]
      exact ⟨_, _, sF σ1 65 0, s2, rfl, k1, WFr.rf, hfr, Or.inr ⟨rfl, Or.inr (by omega)⟩⟩
  · rw [if_neg c, if_neg c]
    exact ⟨_, _, sF σ1 65 0, _, rfl, rfl, WFr.rf, hm, Or.inr ⟨rfl, Or.inl rfl⟩⟩
end
section
variable {F : Nat} {σ : St} {s : Nat → Int}
theorem W_gained (hI : MI s) (hV : WV σ s) {h d : Int} (hh : 0 ≤ h ∧ h < s 1) (hd : 0 ≤ d ∧ d < s 0) : f_Scene_gainedWave_scene0 F σ h d = some (gnS s h * wvS s d (plS s h) % PR (s 0), σ) := by
  have i0 := hI.1
  have i1 := hI.2.1
  have hp := PR_b hI.1
  have b := hI.2.2.2.2.2.2.1 h hh.1 hh.2
  have w := hV.2.2.2.2.2.2.1 h hh.1 hh.2
  have hw := wvS_b hI d (plS s h)
  unfold f_Scene_gainedWave_scene0
  rw [gd_t (by omega), gd_t (by omega), w.1, W_waveAt hI hV (by omega) b.1, bnd_s, w.2, hV.1.2.1, W_product (by omega) (by omega) (by omega), bnd_s]
/-- the wave turned round undoes it -/
theorem INV_wv (hI : MI s) {d p : Int} (hd : 0 ≤ d ∧ d < s 0) (hp : 0 ≤ p ∧ p ≤ 99) : INV (PR (s 0)) (wvS s d p) = wvS s (s 0 - d) p := by
  have i0 := hI.1
  have hP := PR_b hI.1
  have b1 := mulb (a := d) (b := p) (A := 60) (B := 99) (by omega) (by omega) (by omega) (by omega)
  have b2 := mulb (a := s 0 - d) (b := p) (A := 60) (B := 99) (by omega) (by omega) (by omega) (by omega)
  have e1 : wvS s d p = PW (s 0) (d * p).toNat := by
    unfold wvS
    rw [← PW_mod i0 (d * p).toNat, Int.toNat_emod b1.1 (by omega)]
  have e2 : wvS s (s 0 - d) p = PW (s 0) ((s 0 - d) * p).toNat := by
    unfold wvS
    rw [← PW_mod i0 ((s 0 - d) * p).toNat, Int.toNat_emod b2.1 (by omega)]
  have hsum : (d * p).toNat + ((s 0 - d) * p).toNat = (s 0).toNat * p.toNat := by
    have : d * p + (s 0 - d) * p = s 0 * p := by grind
    have h3 : ((s 0).toNat * p.toNat : Nat) = (s 0 * p).toNat := by
      have h4 : ((((s 0).toNat * p.toNat : Nat)) : Int) = s 0 * p := by
        rw [Int.natCast_mul, show (((s 0).toNat : Nat) : Int) = s 0 by omega, show ((p.toNat : Nat) : Int) = p by omega]
      omega
    omega
  have hmul : wvS s d p * wvS s (s 0 - d) p % PR (s 0) = 1 := by
    rw [e1, e2, ← PW_add i0, hsum, ← PW_mod i0, Nat.mul_mod_right]; rfl
  have hpos : 0 < wvS s d p := by
    rcases Int.lt_or_eq_of_le (wvS_b hI d p).1 with h | h
    · exact h
    · rw [← h] at hmul; simp at hmul
  have hv := INV_mul i0 ⟨hpos, (wvS_b hI d p).2⟩
  exact inv_uniq hv.2 (wvS_b hI _ _) (by rw [Int.mul_comm]; exact hv.1) hmul (by omega)
theorem cm_both {σ2 : St} (hI : MI s) (hW : WV σ s) (hV : MV σ2 s) {d : Int} (hd : 0 ≤ d ∧ d < s 0) (hN : gF σ2 47 = s 1) (hA : ∀ i : Nat, (i : Int) < s 1 → gA σ 22 i = gA σ2 17 i ∧ 0 ≤ gA σ2 17 i ∧ gA σ2 17 i ≤ 2000) : ∀ (k n m i : Nat) (acc : Int), k < n → k < m → i + k = (s 1).toNat → (0 ≤ acc ∧ acc < PR (s 0)) → ∃ r, l_W_comes_59 F n σ d (PR (s 0)) acc (i : Nat) = some (r, σ) ∧ l_M_comes_39 F m σ2 d acc (i : Nat) = some (r, σ2)
  | _, 0, _, _, _, h, _, _, _ => by omega
  | _, _ + 1, 0, _, _, _, h, _, _ => by omega
  | 0, n + 1, m + 1, i, acc, _, _, hk, ha => by
    have i1 := hI.2.1
    have w1 := hW.2.1
    refine ⟨acc, ?_, ?_⟩
    · simp only [l_W_comes_59, b_W_comes_59, bv]
      rw [gd_t (by omega), if_pos (by omega)]
    · simp only [l_M_comes_39, b_M_comes_39, bv]
      rw [gd_t (by omega), if_pos (by omega)]
  | k + 1, n + 1, m + 1, i, acc, hn, hm, hk, ha => by
    have i0 := hI.1
    have i1 := hI.2.1
    have w1 := hW.2.1
    have hp := PR_b hI.1
    have b := hI.2.2.2.2.2.2.1 i (by omega) (by omega)
    have hw := wvS_b hI d (plS s i)
    obtain ⟨a1, a2, a3⟩ := hA i (by omega)
    have m1 := modb (a := gnS s i * wvS s d (plS s i)) (p := PR (s 0)) (by omega)
    have m2 := modb (a := gA σ2 17 i * (gnS s i * wvS s d (plS s i) % PR (s 0))) (p := PR (s 0)) (by omega)
    have m3 := modb (a := gA σ2 17 i) (p := PR (s 0)) (by omega)
    have q1 := mulb (a := gA σ2 17 i % PR (s 0)) (b := gnS s i) (A := 1500) (B := 1500) (by omega) (by omega) (by omega) (by omega)
    have m4 := modb (a := gA σ2 17 i % PR (s 0) * gnS s i) (p := PR (s 0)) (by omega)
    have q2 := mulb (a := gA σ2 17 i % PR (s 0) * gnS s i % PR (s 0)) (b := wvS s d (plS s i)) (A := 1500) (B := 1500) (by omega) (by omega) (by omega) (by omega)
    have e : (acc + gA σ2 17 i * (gnS s i * wvS s d (plS s i) % PR (s 0)) % PR (s 0)) % PR (s 0) = (acc + gA σ2 17 i % PR (s 0) * gnS s i % PR (s 0) * wvS s d (plS s i)) % PR (s 0) := by
      refine em_add rfl ?_
      rw [em_mod, em_mul (a := gA σ2 17 i % PR (s 0) * gnS s i % PR (s 0)) (b := gA σ2 17 i * gnS s i) (c := wvS s d (plS s i)) (d := wvS s d (plS s i)) (by rw [em_mod]; exact em_mul em_mod rfl) rfl, Int.mul_assoc]
      exact em_mul rfl em_mod
    obtain ⟨r, h1, h2⟩ := cm_both hI hW hV hd hN hA k n m (i + 1) ((acc + gA σ2 17 i * (gnS s i * wvS s d (plS s i) % PR (s 0)) % PR (s 0)) % PR (s 0)) (by omega) (by omega) (by omega) (modb (by omega))
    refine ⟨r, ?_, ?_⟩
    · simp only [l_W_comes_59, b_W_comes_59, bv]
      rw [gd_t (by omega), if_neg (by omega), gd_t (by omega), W_gained hI hW (by omega) hd, bnd_s, show Int.toNat ((i : Nat) : Int) = i by omega, a1, W_product (by omega) (by omega) (by omega), bnd_s, gd_t ⟨by omega, by omega, by omega⟩, tmE (by omega)]
      exact h1
    · simp only [l_M_comes_39, b_M_comes_39, bv]
      rw [gd_t (by omega), if_neg (by omega), gd_t (by omega), show Int.toNat ((i : Nat) : Int) = i by omega, hV.2.1, gd_t ⟨by omega, by omega, by omega⟩, tmE (by omega), M_gain hI hV (by omega), bnd_s, hV.2.1, gd_t ⟨by omega, by omega, by omega⟩, tmE (by omega), M_place hI hV (by omega), bnd_s, M_waveOf hI hV (by omega) b.1, bnd_s, hV.2.1, gd_t ⟨by omega, by omega, by omega⟩, tmE (by omega), ← e]
      exact h2
end
section
variable {F : Nat}
theorem s_comes (hF : 100 ≤ F) : Sp_comes F RR := by
  intro x σ1 σ2 p0 hR h0
  obtain ⟨hI, hW, hV⟩ := RR_view hR
  have i0 := hI.1
  have i1 := hI.2.1
  have hp := PR_b hI.1
  have hN : RNull σ1 σ2 := hR.2.2.2.2.2.2.2.1.2.2.2.2.1
  have w1 := hW.2.1
  refine sp1 ?_
  have hz : RR x σ1 (sF σ2 0 0) := RR_fr hR WFr.rf (MFr.sF rfl MFr.rf)
  have hV0 := MV_0 (v := 0) hV
  have v1 := hV0.1 1
  unfold f_W_comes f_M_comes
  by_cases c : 0 ≤ p0 ∧ p0 < svw σ2 0
  · refine ev_has' hW.1.1 (by omega) (fun _ => ?_) (fun h => absurd c h)
    refine ev_g (by decide) ?_
    rw [if_neg (by decide)]
    have hM : ∀ Q : Int → St → Prop, Ev (gd (rng (gF (sF σ2 0 0) 47)) (if (gF (sF σ2 0 0) 47) < 0 then some ((-1), (sF σ2 0 0)) else gd (inb 1 82) (gd (rng (gF (sF σ2 0 0) 47) ∧ rng (gA (sF σ2 0 0) 2 (Int.toNat 1))) (if (gF (sF σ2 0 0) 47) = (gA (sF σ2 0 0) 2 (Int.toNat 1)) then l_M_comes_39 F F (sF σ2 0 0) p0 0 0 else some ((-1), (sF σ2 0 0)))))) Q → Ev (f_M_comes F σ2 p0) Q := by
      intro Q h
      unfold f_M_comes
      refine ev_bs ?_
      refine ev_isWay' (hV0.1 0) (by omega) (fun _ => ?_) (fun h => absurd c h)
      refine ev_g (by decide) ?_
      rw [if_neg (by decide)]
      exact h
    unfold f_M_comes at hM
    have f47 : gF (sF σ2 0 0) 47 = gF σ2 47 := rfl
    have a21 : gA (sF σ2 0 0) 2 (Int.toNat 1) = svw σ2 1 := rfl
    rcases hN with ⟨n1, n2⟩ | ⟨n1, n2, n3⟩
    · refine ev_g (by omega) ?_
      rw [if_pos n2]
      refine ev_s (hM _ (ev_g (by omega) ?_))
      rw [if_pos (by omega)]
      exact ev_s ⟨rfl, hz⟩
    · refine ev_g (by omega) ?_
      rw [if_neg (by omega)]
      refine ev_g (by omega) ?_
      by_cases c2 : gF σ2 47 = svw σ2 1
      · rw [if_pos (by omega)]
        obtain ⟨r, k1, k2⟩ := cm_both (F := F) hI hW hV0 c (by rw [f47]; exact c2) (fun i hi => n3 i (by omega)) (svw σ2 1).toNat F F 0 0 (by omega) (by omega) (by omega) (by omega)
        refine ev_bv ?_
        rw [hW.1.2.1]
        refine ev_e k1 (hM _ (ev_g (by omega) ?_))
        rw [if_neg (by omega)]
        refine ev_g (by decide) (ev_g (by omega) ?_)
        rw [if_pos (by omega)]
        exact ev_e k2 ⟨rfl, hz⟩
      · rw [if_neg (by omega)]
        refine ev_s (hM _ (ev_g (by omega) ?_))
        rw [if_neg (by omega)]
        refine ev_g (by decide) (ev_g (by omega) ?_)
        rw [if_neg (by omega)]
        exact ev_s ⟨rfl, hz⟩
  · refine ev_has' hW.1.1 (by omega) (fun h => absurd h c) (fun _ => ?_)
    refine ev_g (by decide) ?_
    rw [if_pos rfl]
    refine ev_s (ev_bs ?_)
    refine ev_isWay' (hV0.1 0) (by omega) (fun h => absurd h c) (fun _ => ?_)
    refine ev_g (by decide) ?_
    rw [if_pos rfl]
    exact ev_s ⟨rfl, hz⟩
end
