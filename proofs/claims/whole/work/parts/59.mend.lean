/-! PURE PART: mend -/
def sg (s : Nat → Int) (i : Nat) (v : Int) : Nat → Int := fun j => if j = 7 + 2 * i then v else s j
section
variable {F : Nat}
/-- one gain is another -/
theorem gain_step {σ1 σ2 : St} {s : Nat → Int} (hI : MI s) (hW : WV σ1 s) (hV : MV σ2 s) {i : Nat} (hi : (i : Int) < s 1) {v : Int} (hv : 0 ≤ v ∧ v < PR (s 0)) : MI (sg s i v) ∧ WV (sA σ1 59 i v) (sg s i v) ∧ MV (sA σ2 2 (7 + 2 * i) v) (sg s i v) := by
  obtain ⟨i0, i1, i2, i3, i4, i5, i6, i7, i8, i9, i10⟩ := hI
  obtain ⟨w0, w1, w2, w3, w4, w5, w6, w7, w8, w9⟩ := hW
  obtain ⟨u, v20, v21, v6⟩ := hV
  have lo : ∀ k, k < 7 → sg s i v k = s k := fun k hk => by unfold sg; rw [if_neg (by omega)]
  have hi2 : ∀ k, 26 ≤ k → sg s i v k = s k := fun k hk => by unfold sg; rw [if_neg (by omega)]
  have pl : ∀ a, plS (sg s i v) a = plS s a := fun a => by unfold plS sg; rw [if_neg (by omega)]
  have gn : ∀ a, 0 ≤ a → gnS (sg s i v) a = if a = i then v else gnS s a := fun a ha => by
    unfold gnS sg
    by_cases c : a = i
    · rw [if_pos c, if_pos (by omega)]
    · rw [if_neg c, if_neg (by omega)]
  have e0 := lo 0 (by omega)
  refine ⟨?_, ?_, ?_⟩
  · unfold MI
    rw [e0, lo 1 (by omega), lo 2 (by omega), lo 3 (by omega), lo 4 (by omega), lo 5 (by omega)]
    refine ⟨i0, i1, i2, i3, i4, i5, fun a h0 h1 => ?_, fun a b h0 h1 h2 => ?_, fun a h0 h1 => ?_, fun a h0 h1 => ?_, fun a h0 h1 => ?_⟩
    · rw [pl, gn a h0]
      refine ⟨(i6 a h0 h1).1, ?_⟩
      by_cases c : a = i
      · rw [if_pos c]; exact hv
      · rw [if_neg c]; exact (i6 a h0 h1).2
    · rw [pl, pl]; exact i7 a b h0 h1 h2
    · have := i8 a h0 h1
      unfold stS ldS drS flS at this ⊢
      rw [hi2 _ (by omega), hi2 _ (by omega), hi2 _ (by omega), hi2 _ (by omega)]; exact this
    · have := i9 a h0 h1
      unfold xS yS at this ⊢
      rw [hi2 _ (by omega), hi2 _ (by omega)]; exact this
    · have := i10 a h0 h1
      unfold frS dxS dyS at this ⊢
      rw [hi2 _ (by omega), hi2 _ (by omega), hi2 _ (by omega)]; exact this
  · unfold WV
    rw [e0, lo 1 (by omega), lo 2 (by omega), lo 3 (by omega), lo 4 (by omega), lo 5 (by omega)]
    refine ⟨w0, w1, w2, w3, w4, w5, fun a h0 h1 => ?_, fun a h0 h1 => ?_, fun a h0 h1 => ?_, fun a h0 h1 => ?_⟩
    · have := w6 a h0 h1
      rw [pl, gn a h0]
      refine ⟨this.1, ?_⟩
      rw [gA_sA]
      by_cases c : a = i
      · rw [if_pos c, if_pos ⟨rfl, by omega⟩]
      · rw [if_neg c, if_neg (by omega)]; exact this.2
    · have := w7 a h0 h1
      unfold stS ldS drS flS at this ⊢
      rw [hi2 _ (by omega), hi2 _ (by omega), hi2 _ (by omega), hi2 _ (by omega)]; exact this
    · have := w8 a h0 h1
      unfold xS yS at this ⊢
      rw [hi2 _ (by omega), hi2 _ (by omega)]; exact this
    · have := w9 a h0 h1
      unfold frS dxS dyS at this ⊢
      rw [hi2 _ (by omega), hi2 _ (by omega), hi2 _ (by omega)]; exact this
  · unfold MV
    rw [e0]
    refine ⟨fun j => ?_, v20, v21, v6⟩
    rw [gA_sA]
    unfold sg
    by_cases c : j = 7 + 2 * i
    · rw [if_pos ⟨rfl, c⟩, if_pos c]
    · rw [if_neg (fun e => c e.2), if_neg c]; exact u j
theorem md_both (hF : 100 ≤ F) {d by' : Int} {H : Nat} : ∀ (k n m i : Nat) (σ1 σ2 : St) (s : Nat → Int), MI s → WV σ1 s → MV σ2 s → 0 ≤ d ∧ d < s 0 → (0 ≤ by' ∧ by' < PR (s 0)) → k < n → k < m → i + k = H → (H : Int) = s 1 → (∀ j : Nat, j < H → gA σ1 94 j = gA σ2 12 j ∧ 0 ≤ gA σ2 12 j ∧ gA σ2 12 j < PR (s 0)) → ∃ σ1' σ2' s', l_W_mend_112 F n σ1 d (H : Nat) (PR (s 0)) by' (i : Nat) = some (1, σ1') ∧ l_M_mend_91 F m σ2 d (H : Nat) by' (i : Nat) = some (1, σ2') ∧ MI s' ∧ WV σ1' s' ∧ MV σ2' s' ∧ (∀ q, gF σ1' q = gF σ1 q) ∧ (∀ a, a ≠ 59 → ∀ j, gA σ1' a j = gA σ1 a j) ∧ (∀ q, gF σ2' q = gF σ2 q) ∧ (∀ a, a ≠ 2 → ∀ j, gA σ2' a j = gA σ2 a j)
  | _, 0, _, _, _, _, _, _, _, _, _, _, h, _, _, _, _ => by omega
  | _, _ + 1, 0, _, _, _, _, _, _, _, _, _, _, h, _, _, _ => by omega
  | 0, n + 1, m + 1, i, σ1, σ2, s, hI, hW, hV, hd, hb, _, _, hk, hH, hA => by
    have i1 := hI.2.1
    refine ⟨σ1, σ2, s, ?_, ?_, hI, hW, hV, fun _ => rfl, fun _ _ _ => rfl, fun _ => rfl, fun _ _ _ => rfl⟩
    · simp only [l_W_mend_112, b_W_mend_112, bv, bs]
      rw [gd_t (by omega), if_pos (by omega)]
    · simp only [l_M_mend_91, b_M_mend_91, bv, bs]
      rw [gd_t (by omega), if_pos (by omega)]
  | k + 1, n + 1, m + 1, i, σ1, σ2, s, hI, hW, hV, hd, hb, hn, hm, hk, hH, hA => by
    have i0 := hI.1
    have i1 := hI.2.1
    have hp := PR_b hI.1
    have b := hI.2.2.2.2.2.2.1 i (by omega) (by omega)
    have w := hW.2.2.2.2.2.2.1 i (by omega) (by omega)
    obtain ⟨a1, a2, a3⟩ := hA i (by omega)
    have hwb := wvS_b hI (s 0 - d) (plS s i)
    have hiv := INV_wv hI hd b.1
    have q1 := mulb (a := gA σ2 12 i) (b := wvS s (s 0 - d) (plS s i)) (A := 1500) (B := 1500) (by omega) (by omega) (by omega) (by omega)
    have m1 := modb (a := gA σ2 12 i * wvS s (s 0 - d) (plS s i)) (p := PR (s 0)) (by omega)
    have q2 := mulb (a := gA σ2 12 i * wvS s (s 0 - d) (plS s i) % PR (s 0)) (b := by') (A := 1500) (B := 1500) (by omega) (by omega) (by omega) (by omega)
    have m2 := modb (a := gA σ2 12 i * wvS s (s 0 - d) (plS s i) % PR (s 0) * by') (p := PR (s 0)) (by omega)
    obtain ⟨g1, g2, g3⟩ := gain_step hI hW hV (i := i) (by omega) m2
    have e0 : sg s i (gA σ2 12 i * wvS s (s 0 - d) (plS s i) % PR (s 0) * by' % PR (s 0)) 0 = s 0 := by unfold sg; rw [if_neg (by omega)]
    have e1 : sg s i (gA σ2 12 i * wvS s (s 0 - d) (plS s i) % PR (s 0) * by' % PR (s 0)) 1 = s 1 := by unfold sg; rw [if_neg (by omega)]
    obtain ⟨s1, s2, s', k1, k2, k3, k4, k5, k6, k7, k8, k9⟩ := md_both hF (d := d) (by' := by') (H := H) k n m (i + 1) _ _ _ g1 g2 g3 (by rw [e0]; exact hd) (by rw [e0]; exact hb) (by omega) (by omega) (by omega) (by rw [e1]; exact hH) (fun j hj => by
      rw [gA_sA, gA_sA, if_neg (by omega), if_neg (by omega), e0]; exact hA j hj)
    rw [e0] at k1
    refine ⟨s1, s2, s', ?_, ?_, k3, k4, k5, k6, fun a ha j => by rw [k7 a ha, gA_sA, if_neg (fun e => ha e.1)], k8, fun a ha j => by rw [k9 a ha, gA_sA, if_neg (fun e => ha e.1)]⟩
    · simp only [l_W_mend_112, b_W_mend_112, bv, bs]
      rw [gd_t (by omega), if_neg (by omega), gd_t (by omega), gd_t (by omega), w.1, W_waveBack hI hW (by omega) b.1, bnd_s, show Int.toNat ((i : Nat) : Int) = i by omega, a1, W_product (by omega) (by omega) (by omega), bnd_s, W_product (by omega) (by omega) (by omega), bnd_s, gd_t (by omega)]
      exact k1
    · simp only [l_M_mend_91, b_M_mend_91, bv, bs]
      rw [gd_t (by omega), if_neg (by omega), gd_t (by omega), M_place hI hV (by omega), bnd_s, M_waveOf hI hV (by omega) b.1, bnd_s, M_inverse hF i0 hV.2.1 (wvS_b hI _ _), bnd_s, hiv, show Int.toNat ((i : Nat) : Int) = i by omega, hV.2.1, gd_t ⟨by omega, by omega, by omega⟩, tmE q1.1, gd_t ⟨by omega, by omega, by omega⟩, gd_t (by omega), tmE q2.1, show Int.toNat (6 + 2 * (i : Int) + 1) = 7 + 2 * i by omega]
      exact k2
theorem s_mend (hF : 1000 ≤ F) : Sp_mend F RR := by
  intro x σ1 σ2 p0 hR h0
  obtain ⟨hI, hW, hV⟩ := RR_view hR
  have i0 := hI.1
  have i1 := hI.2.1
  have hp := PR_b hI.1
  refine sp1 ?_
  obtain ⟨r1, r2, a1, a2, t1, t2, f1, f2, hh⟩ := take_both (F := F) hF hR
  have hz : RR x a1 a2 := RR_take hR f1 f2
  have hWa : WV a1 (svw σ2) := WV_fr (WV_65 hW) f1
  have hVa : MV a2 (svw σ2) := MV_fr (MV_2 hV) f2
  have w1 := hWa.2.1
  have v1 := hVa.1 1
  unfold f_W_mend f_M_mend
  refine ev_be t1 ?_
  have hM : ∀ (k : Int → St → Option (Int × St)) (Q : Int → St → Prop), Ev (k r2 a2) Q → Ev (bs (sF σ2 0 0) fun σ1 => bnd (f_M_takesReadings F σ1) k) Q := fun k Q h => ev_bs (ev_be t2 h)
  rcases hh with ⟨⟨rfl, hr0, hr1⟩, hA⟩ | ⟨rfl, h2⟩
  · refine ev_g (by omega) ?_
    by_cases c1 : r1 = svw σ2 1
    · rw [if_pos (by omega)]
      refine ev_g (by omega) ?_
      by_cases c2 : r1 = 0
      · rw [if_pos c2]
        refine ev_s (hM _ _ ?_)
        simp only [Int.reduceToNat]
        refine ev_g (by decide) (ev_g (by omega) ?_)
        rw [if_pos (by omega)]
        refine ev_g (by omega) ?_
        rw [if_pos c2]
        exact ev_s ⟨rfl, hz⟩
      · rw [if_neg c2]
        by_cases c3 : 0 ≤ p0 ∧ p0 < svw σ2 0
        · refine ev_has' hWa.1.1 (by omega) (fun _ => ?_) (fun h => absurd c3 h)
          refine ev_g (by decide) ?_
          rw [if_neg (by decide)]
          obtain ⟨z1, z2, z3⟩ := hA 0 (by omega)
          have hM2 : ∀ (k : St → Option (Int × St)) (Q : Int → St → Prop), Ev (gd (inb 0 470) (gd (rng (gA a2 12 0)) (if (gA a2 12 0) = 0 then some (0, a2) else k a2))) Q → Ev (gd (inb 1 82) (gd (rng r1 ∧ rng (gA a2 2 (Int.toNat 1))) (if r1 = (gA a2 2 (Int.toNat 1)) then gd (rng r1) (if r1 = 0 then some (0, a2) else bnd (f_M_isWay F a2 p0) fun r4 σ5 => gd (rng r4) (if r4 = 0 then some (0, σ5) else gd (inb 0 470) (gd (rng (gA σ5 12 0)) (if (gA σ5 12 0) = 0 then some (0, σ5) else k σ5)))) else some (0, a2)))) Q := by
            intro k Q h
            simp only [Int.reduceToNat]
            refine ev_g (by decide) (ev_g (by omega) ?_)
            rw [if_pos (by omega)]
            refine ev_g (by omega) ?_
            rw [if_neg c2]
            refine ev_isWay' (hVa.1 0) (by omega) (fun _ => ?_) (fun h => absurd c3 h)
            refine ev_g (by decide) ?_
            rw [if_neg (by decide)]
            exact h
          simp only [Int.reduceToNat] at hM2 ⊢
          refine ev_g (by decide) (ev_g (by omega) ?_)
          by_cases c4 : gA a2 12 0 = 0
          · rw [if_pos (by omega)]
            refine ev_s (hM _ _ (hM2 _ _ (ev_g (by decide) (ev_g (by omega) ?_))))
            rw [if_pos c4]
            exact ev_s ⟨rfl, hz⟩
          · rw [if_neg (by omega)]
            have b := hI.2.2.2.2.2.2.1 0 (by omega) (by omega)
            have w := hWa.2.2.2.2.2.2.1 0 (by omega) (by omega)
            have w55 : gA a1 55 0 = plS (svw σ2) 0 := w.1
            have w59 : gA a1 59 0 = gnS (svw σ2) 0 := w.2
            have hwb := wvS_b hI (svw σ2 0 - p0) (plS (svw σ2) 0)
            have hiv := INV_wv hI c3 b.1
            have q1 := mulb (a := gA a2 12 0) (b := wvS (svw σ2) (svw σ2 0 - p0) (plS (svw σ2) 0)) (A := 1500) (B := 1500) (by omega) (by omega) (by omega) (by omega)
            have m1 := modb (a := gA a2 12 0 * wvS (svw σ2) (svw σ2 0 - p0) (plS (svw σ2) 0)) (p := PR (svw σ2 0)) (by omega)
            have ib := INV_b i0 m1
            have q2 := mulb (a := INV (PR (svw σ2 0)) (gA a2 12 0 * wvS (svw σ2) (svw σ2 0 - p0) (plS (svw σ2) 0) % PR (svw σ2 0))) (b := gnS (svw σ2) 0) (A := 1500) (B := 1500) (by omega) (by omega) (by omega) (by omega)
            have m2 := modb (a := gnS (svw σ2) 0 * INV (PR (svw σ2 0)) (gA a2 12 0 * wvS (svw σ2) (svw σ2 0 - p0) (plS (svw σ2) 0) % PR (svw σ2 0))) (p := PR (svw σ2 0)) (by omega)
            have hc := Int.mul_comm (gnS (svw σ2) 0) (INV (PR (svw σ2 0)) (gA a2 12 0 * wvS (svw σ2) (svw σ2 0 - p0) (plS (svw σ2) 0) % PR (svw σ2 0)))
            obtain ⟨H, hH⟩ := Int.eq_ofNat_of_zero_le hr0
            subst hH
            obtain ⟨s1, s2, s', k1, k2, k3, k4, k5, k6, k7, k8, k9⟩ := md_both (F := F) (by omega) (d := p0) (by' := gnS (svw σ2) 0 * INV (PR (svw σ2 0)) (gA a2 12 0 * wvS (svw σ2) (svw σ2 0 - p0) (plS (svw σ2) 0) % PR (svw σ2 0)) % PR (svw σ2 0)) (H := H) H F F 0 a1 a2 (svw σ2) hI hWa hVa c3 m2 (by omega) (by omega) (by omega) c1 (fun j hj => hA j (by omega))
            refine ev_bv ?_
            rw [hWa.1.2.1, w55, z1]
            refine ev_g (by decide) (ev_g (by decide) (ev_be (W_waveBack hI hWa (by omega) b.1) (ev_be (W_product (by omega) (by omega) (by omega)) (ev_g (by decide) (ev_be (W_inverse (by omega) i0 m1) ?_)))))
            rw [w59]
            refine ev_be (W_product (by omega) (by omega) (by omega)) (ev_e k1 (hM _ _ (hM2 (fun σ5 => gd (inb 0 470) (bnd (f_M_place F σ5 0) fun r6 σ7 => bnd (f_M_waveOf F σ7 p0 r6) fun r8 σ9 => bnd (f_M_inverse F σ9 r8) fun r10 σ11 => bv ((gA σ5 12 0) * r10) fun t12 => gd (rng t12 ∧ rng (gF σ11 20) ∧ (gF σ11 20) ≠ (0 : Int)) (bv (Int.tmod t12 (gF σ11 20)) fun x3_13 => bnd (f_M_inverse F σ11 x3_13) fun r14 σ15 => bnd (f_M_gain F σ15 0) fun r16 σ17 => gd (rng (r14 * r16) ∧ rng (gF σ17 20) ∧ (gF σ17 20) ≠ (0 : Int)) (bv (Int.tmod (r14 * r16) (gF σ17 20)) fun t18 => l_M_mend_91 F F σ17 p0 (H : Nat) t18 0)))) _ (ev_g (by decide) (ev_g (by omega) ?_)))))
            rw [if_neg c4]
            refine ev_g (by decide) (ev_be (M_place hI hVa (by omega)) (ev_be (M_waveOf hI hVa (by omega) b.1) (ev_be (M_inverse (by omega) i0 hVa.2.1 (wvS_b hI _ _)) (ev_bv ?_))))
            rw [hiv, hVa.2.1]
            refine ev_g ⟨by omega, by omega, by omega⟩ (ev_bv ?_)
            rw [tmE q1.1]
            refine ev_be (M_inverse (by omega) i0 hVa.2.1 m1) (ev_be (M_gain hI hVa (by omega)) ?_)
            rw [hVa.2.1]
            refine ev_g ⟨by omega, by omega, by omega⟩ (ev_bv ?_)
            rw [tmE q2.1, ← hc]
            refine ev_e k2 ⟨rfl, ?_⟩
            obtain ⟨y1, y2⟩ := SC_view k3 k4 k5
            exact RR_scene hz y1 y2 (fun q _ _ => k6 q) (fun a ha _ j => k7 a (by intro e; subst e; exact ha (by unfold scA; omega)) j) (fun q _ _ _ => k8 q) (fun a h1 _ _ j => k9 a h1 j)
        · refine ev_has' hWa.1.1 (by omega) (fun h => absurd h c3) (fun _ => ?_)
          refine ev_g (by decide) ?_
          rw [if_pos rfl]
          refine ev_s (hM _ _ ?_)
          simp only [Int.reduceToNat]
          refine ev_g (by decide) (ev_g (by omega) ?_)
          rw [if_pos (by omega)]
          refine ev_g (by omega) ?_
          rw [if_neg c2]
          refine ev_isWay' (hVa.1 0) (by omega) (fun h => absurd h c3) (fun _ => ?_)
          refine ev_g (by decide) ?_
          rw [if_pos rfl]
          exact ev_s ⟨rfl, hz⟩
    · rw [if_neg (by omega)]
      refine ev_s (hM _ _ ?_)
      simp only [Int.reduceToNat]
      refine ev_g (by decide) (ev_g (by omega) ?_)
      rw [if_neg (by omega)]
      exact ev_s ⟨rfl, hz⟩
  · refine ev_g (by omega) ?_
    rw [if_neg (by omega)]
    refine ev_s (hM _ _ ?_)
    simp only [Int.reduceToNat]
    refine ev_g (by decide) (ev_g (by omega) ?_)
    rw [if_neg (by omega)]
    exact ev_s ⟨rfl, hz⟩
end
