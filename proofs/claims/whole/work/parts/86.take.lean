/-! PURE PART: what makes the readings: taken into the base; the last one -/
section
variable {F : Nat} {s : Nat → Int} {S cnt : Nat} {g : Nat → Int} {ds A : Nat → Nat}
/-- the base's row L, not scaled yet -/
theorem W_t8 (hI : MI s) (hF : 10 ≤ F) {dd L : Nat} (hL : L ≤ 1) (hLc : L ≤ cnt) (hd : (dd : Int) < s 0) (hK : KP s S cnt A) : ∀ (d m : Nat) (σ : St) (i : Nat), d < m → i + d = cnt → L ≤ i → KCm σ s cnt → HBm σ s cnt g ds A L → (∀ j, j < L → gA σ 101 j = RDs s ds A j (clS s dd) (A j)) → (∀ j, L ≤ j → j < i → gA σ (209 + L) (A j) = RDs s ds A L (clS s dd) (A j)) → ∃ σ', l_Makers_takeIntoBase_8 F m σ (L : Nat) (dd : Nat) (i : Nat) = l_Makers_takeIntoBase_8 F 1 σ' (L : Nat) (dd : Nat) (cnt : Nat) ∧ (∀ j, L ≤ j → j < cnt → gA σ' (209 + L) (A j) = RDs s ds A L (clS s dd) (A j)) ∧ (∀ q, gF σ' q = gF σ q) ∧ ∀ a, a ≠ 209 + L → ∀ i, gA σ' a i = gA σ a i
  | _, 0, _, _, h, _, _, _, _, _, _ => absurd h (Nat.not_lt_zero _)
  | 0, m + 1, σ, i, _, hi, hLi, hC, hB, ht, hr => by
    have i1 := hK.1
    have : i = cnt := by omega
    subst this
    refine ⟨σ, ?_, fun j h1 h2 => hr j h1 h2, fun _ => rfl, fun _ _ _ => rfl⟩
    show b_Makers_takeIntoBase_8 F _ σ _ _ _ = b_Makers_takeIntoBase_8 F _ σ _ _ _
    unfold b_Makers_takeIntoBase_8
    rw [hC.2.2.1, gd_t (by omega), if_pos (by omega), gd_t (by omega), if_pos (by omega), gd_t (by omega)]
  | d + 1, m + 1, σ, i, hm, hi, hLi, hC, hB, ht, hr => by
    have i1 := hK.1
    have h1 := hK.2.1 i (by omega)
    have hA10 := KP_lt hI hK (i := i) (by omega)
    have hl := W_less (cnt := cnt) (ds := ds) (A := A) hI hF (dd := dd) (h := A i) (L := L) (by omega) h1.1 hd hC ht (fun j hj => hB.2.1 j i hj (by omega) (by omega))
    obtain ⟨σ', k1, k2, k3, k4⟩ := W_t8 hI hF hL hLc hd hK d m (sA σ (209 + L) (A i) (RDs s ds A L (clS s dd) (A i))) (i + 1) (by omega) (by omega) (by omega) ⟨hC.1, hC.2.1, hC.2.2.1, fun d' h' a b => by have := hI.1; rw [gA_sA, if_neg (by omega)]; exact hC.2.2.2 d' h' a b⟩ ⟨fun j hj => by rw [gA_sA, if_neg (by omega)]; exact hB.1 j hj, fun j k a b c => by rw [gA_sA, if_neg (by omega)]; exact hB.2.1 j k a b c, fun j k a b c => by rw [gA_sA, if_neg (by omega)]; exact hB.2.2 j k a b c⟩ (fun j hj => by rw [gA_sA, if_neg (by omega)]; exact ht j hj) (fun j h1 h2 => by
      rw [gA_sA]
      by_cases q : j = i
      · rw [if_pos ⟨rfl, by rw [q]⟩, q]
      · rw [if_neg (fun z => hK.2.2.1 j i (by omega) (by omega) z.2)]; exact hr j h1 (by omega))
    refine ⟨σ', ?_, k2, k3, fun a ha j => by rw [k4 a ha, gA_sA, if_neg (fun z => ha z.1)]⟩
    rw [← k1]
    show b_Makers_takeIntoBase_8 F _ σ _ _ _ = _
    unfold b_Makers_takeIntoBase_8
    rw [hC.2.2.1, gd_t (by omega), if_neg (by omega), gd_t (by omega), gd_t (by omega), gd_t (by omega), Int.toNat_natCast, hB.1 i (by omega), hl, bnd_s, gd_t (by omega), bs_s, bv_s, Int.toNat_natCast, Int.toNat_natCast]; rfl
/-- scaled, and taken off the readings -/
theorem W_t93 (hI : MI s) {L : Nat} {E R : Nat → Int} {sc mu : Int} (hL : L ≤ 1) (hsc : 0 ≤ sc ∧ sc ≤ 1500) (hmu : 0 ≤ mu ∧ mu < PR (s 0)) (hE : ∀ j, j < cnt → 0 ≤ E (A j) ∧ E (A j) < PR (s 0)) (hR : ∀ j, j < cnt → 0 ≤ R (A j) ∧ R (A j) < PR (s 0)) (hK : KP s S cnt A) : ∀ (d m : Nat) (σ : St) (i : Nat), d < m → i + d = cnt → L ≤ i → gF σ 6082 = PR (s 0) → gF σ 6086 = (cnt : Nat) → (∀ j, j < cnt → gA σ 98 j = (A j : Nat)) → (∀ j, L ≤ j → j < i → gA σ (209 + L) (A j) = E (A j) * sc % PR (s 0)) → (∀ j, i ≤ j → j < cnt → gA σ (209 + L) (A j) = E (A j)) → (∀ j, L ≤ j → j < cnt → gA σ (212 + L) (A j) = R (A j)) → (∀ j, L ≤ j → j < i → gA σ (212 + (L + 1)) (A j) = (R (A j) - mu * (E (A j) * sc % PR (s 0))) % PR (s 0)) → ∃ σ', l_Makers_takeIntoBase_93 F m σ (L : Nat) sc mu (i : Nat) = some (1, σ') ∧ (∀ j, L ≤ j → j < cnt → gA σ' (209 + L) (A j) = E (A j) * sc % PR (s 0)) ∧ (∀ j, L ≤ j → j < cnt → gA σ' (212 + (L + 1)) (A j) = (R (A j) - mu * (E (A j) * sc % PR (s 0))) % PR (s 0)) ∧ (∀ q, gF σ' q = gF σ q) ∧ ∀ a, a ≠ 209 + L → a ≠ 212 + (L + 1) → ∀ i, gA σ' a i = gA σ a i
  | _, 0, _, _, h, _, _, _, _, _, _, _, _, _ => absurd h (Nat.not_lt_zero _)
  | 0, m + 1, σ, i, _, hi, hLi, h82, h86, h98, hb, he, hr, hq => by
    have i1 := hK.1
    refine ⟨σ, ?_, fun j h1 h2 => hb j h1 (by omega), fun j h1 h2 => hq j h1 (by omega), fun _ => rfl, fun _ _ _ _ => rfl⟩
    show b_Makers_takeIntoBase_93 F _ σ _ _ _ _ = _
    unfold b_Makers_takeIntoBase_93
    rw [h86, gd_t (by omega), if_pos (by omega)]
  | d + 1, m + 1, σ, i, hm, hi, hLi, h82, h86, h98, hb, he, hr, hq => by
    have i1 := hK.1
    have hp := PR_b hI.1
    have hA10 := KP_lt hI hK (i := i) (by omega)
    have e1 := hE i (by omega)
    have e2 := hR i (by omega)
    have e3 := modb (a := E (A i) * sc) (p := PR (s 0)) (by omega)
    have e4 := modb (a := mu * (E (A i) * sc % PR (s 0))) (p := PR (s 0)) (by omega)
    have inj : ∀ j, j < cnt → j ≠ i → A j ≠ A i := fun j hj hne => by
      rcases Nat.lt_or_gt_of_ne hne with q | q
      · exact hK.2.2.1 j i q (by omega)
      · exact fun e => hK.2.2.1 i j q hj e.symm
    have ih := W_t93 hI hL hsc hmu hE hR hK d m (sA (sA σ (209 + L) (A i) (E (A i) * sc % PR (s 0))) (212 + (L + 1)) (A i) ((R (A i) - mu * (E (A i) * sc % PR (s 0))) % PR (s 0))) (i + 1) (by omega) (by omega) (by omega) h82 h86 (fun j hj => by rw [gA_sA, if_neg (by omega), gA_sA, if_neg (by omega)]; exact h98 j hj) (fun j h1 h2 => by
      rw [gA_sA, if_neg (by omega), gA_sA]
      by_cases q : j = i
      · rw [if_pos ⟨rfl, by rw [q]⟩, q]
      · rw [if_neg (fun z => inj j (by omega) q z.2)]; exact hb j h1 (by omega)) (fun j h1 h2 => by
      rw [gA_sA, if_neg (by omega), gA_sA, if_neg (fun z => inj j (by omega) (by omega) z.2)]; exact he j (by omega) h2) (fun j h1 h2 => by
      rw [gA_sA, if_neg (by omega), gA_sA, if_neg (by omega)]; exact hr j h1 h2) (fun j h1 h2 => by
      rw [gA_sA]
      by_cases q : j = i
      · rw [if_pos ⟨rfl, by rw [q]⟩, q]
      · rw [if_neg (fun z => inj j (by omega) q z.2), gA_sA, if_neg (by omega)]; exact hq j h1 (by omega))
    obtain ⟨σ', k1, k2, k3, k4, k5⟩ := ih
    refine ⟨σ', ?_, k2, k3, k4, fun a h1 h2 j => by rw [k5 a h1 h2, gA_sA, if_neg (fun z => h2 z.1), gA_sA, if_neg (fun z => h1 z.1)]⟩
    rw [← k1]
    have f1 : gA (sA σ (209 + L) (A i) (E (A i) * sc % PR (s 0))) (212 + L) (A i) = R (A i) := by rw [gA_sA, if_neg (by omega)]; exact hr i hLi (by omega)
    have f2 : gA (sA σ (209 + L) (A i) (E (A i) * sc % PR (s 0))) (209 + L) (A i) = E (A i) * sc % PR (s 0) := by rw [gA_sA, if_pos ⟨rfl, rfl⟩]
    have f3 : gF (sA σ (209 + L) (A i) (E (A i) * sc % PR (s 0))) 6082 = PR (s 0) := h82
    have em : mu * (E (A i) * sc % PR (s 0)) % PR (s 0) % PR (s 0) = mu * (E (A i) * sc % PR (s 0)) % PR (s 0) := em_mod
    have ed : (R (A i) - mu * (E (A i) * sc % PR (s 0)) % PR (s 0)) % PR (s 0) = (R (A i) - mu * (E (A i) * sc % PR (s 0))) % PR (s 0) := em_sub rfl em_mod
    show b_Makers_takeIntoBase_93 F _ σ _ _ _ _ = _
    unfold b_Makers_takeIntoBase_93
    rw [h86, gd_t (by omega), if_neg (by omega), gd_t (by omega), bv_s, Int.toNat_natCast, h98 i (by omega), gd_t (by omega), gd_t (by omega), gd_t (by omega), bv_s, Int.toNat_natCast, Int.toNat_natCast, he i (by omega) (by omega), h82, W_product (by omega) (by omega) (by omega), bnd_s, gd_t (by omega), bs_s, gd_t (by omega), gd_t (by omega), gd_t (by omega), bv_s, gd_t (by omega), gd_t (by omega), bv_s, f1, f2, f3, W_product (by omega) (by omega) (by omega), bnd_s, f3, W_difference e2 e4 (by omega), bnd_s, gd_t (by omega), bs_s, bv_s, ed, show Int.toNat ((L : Int) + 1) = L + 1 by omega]; rfl
theorem HB_tk {σ σ' : St} {L : Nat} (h : HBm σ s cnt g ds A L) (h98 : ∀ i, gA σ' 98 i = gA σ 98 i) (hb : ∀ i, i < L → ∀ j, gA σ' (209 + i) j = gA σ (209 + i) j) (hr : ∀ i, i ≤ L → ∀ j, gA σ' (212 + i) j = gA σ (212 + i) j) : HBm σ' s cnt g ds A L := ⟨fun i hi => by rw [h98]; exact h.1 i hi, fun i j h1 h2 h3 => by rw [hb i h1]; exact h.2.1 i j h1 h2 h3, fun i j h1 h2 h3 => by rw [hr i h1]; exact h.2.2 i j h1 h2 h3⟩
theorem NZ_c {L : Nat} {A' : Nat → Nat} (h : NZ s ds A L) (hA : ∀ i, i < L → A' i = A i) : NZ s ds A' L := fun i hi => by
  have e : ∀ (v : Nat → Int) (h : Nat), RDs s ds A' i v h = RDs s ds A i v h := fun v h => RD_congr i (fun _ _ => rfl) (fun j hj => hA j (by omega))
  rw [hA i hi, e]; exact h i hi
/-- takeIntoBase -/
theorem W_tib (hI : MI s) (hF : 200 ≤ F) {dd L : Nat} (hL : L ≤ 1) (hLc : L ≤ cnt) (hd : (dd : Int) < s 0) (hg : ∀ h, HH s S h → 0 ≤ g h ∧ g h < PR (s 0)) {σ : St} (hK : KP s S cnt A) (hC : KCm σ s cnt) (hB : HBm σ s cnt g ds A L) (hN : NZ s ds A L) : ∃ σ', TKF σ σ' ∧ ((f_Makers_takeIntoBase F σ (L : Nat) (dd : Nat) = some (0, σ') ∧ (∀ h, HH s S h → RDs s ds A L (clS s dd) h % PR (s 0) = 0) ∧ HBm σ' s cnt g ds A L) ∨ ∃ A', f_Makers_takeIntoBase F σ (L : Nat) (dd : Nat) = some (1, σ') ∧ KP s S cnt A' ∧ (∀ i, i < L → A' i = A i) ∧ L < cnt ∧ HBm σ' s cnt g (upN ds L dd) A' (L + 1) ∧ NZ s (upN ds L dd) A' (L + 1)) := by
  have hp := PR_b hI.1
  have c10 := hK.1
  obtain ⟨s1, a1, a2, a3, a4⟩ := W_ft hI (F := F) (by omega) (dd := dd) (L := L) (by omega) hLc hd hK L F σ 0 (by omega) (by omega) hC hB (fun j hj => by omega)
  have t1 : TKF σ s1 := ⟨a3, fun a h1 h2 h3 i => a4 a h2 i⟩
  have C1 := KC_tk hI hC t1
  have B1 : HBm s1 s cnt g ds A L := HB_tk hB (fun i => a4 98 (by omega) i) (fun i hi j => a4 _ (by omega) j) (fun i hi j => a4 _ (by omega) j)
  obtain ⟨s2, b1, b2, b3, b4⟩ := W_t8 hI (F := F) (by omega) hL hLc hd hK (cnt - L) F s1 L (by omega) (by omega) (by omega) C1 B1 a2 (fun j h1 h2 => by omega)
  have t2 : TKF s1 s2 := ⟨b3, fun a h1 h2 h3 i => b4 a (by omega) i⟩
  have C2 := KC_tk hI C1 t2
  have B2 : HBm s2 s cnt g ds A L := HB_tk B1 (fun i => b4 98 (by omega) i) (fun i hi j => b4 _ (by omega) j) (fun i hi j => b4 _ (by omega) j)
  have ef : f_Makers_takeIntoBase F σ (L : Nat) (dd : Nat) = bnd (f_Makers_bringForward F (209 + L) s2 (L : Nat)) fun r4 σ5 => gd (rng r4) (if r4 = 0 then some (0, σ5) else bnd (f_W_inverse F σ5 r4 (gF σ5 6082)) fun r6 σ7 => gd (inb (L : Nat) 3) (gd (inb (L : Nat) 10) (gd (inb (gA σ7 98 L) 10) (bv (gA σ7 (212 + L) (Int.toNat (gA σ7 98 L))) fun t9 => l_Makers_takeIntoBase_93 F F σ7 (L : Nat) r6 t9 (L : Nat))))) := by
    unfold f_Makers_takeIntoBase
    rw [show f_Makers_findTimes F σ (L : Nat) (dd : Nat) = some (0, s1) from a1, bnd_s, b1]
    show b_Makers_takeIntoBase_8 F _ s2 _ _ _ = _
    unfold b_Makers_takeIntoBase_8
    rw [C2.2.2.1, gd_t (by omega), if_pos (by omega), gd_t (by omega), Int.toNat_natCast]
  have hcc : ∀ j, L ≤ j → j < cnt → gA s2 (209 + L) (A j) = RDs s ds A L (clS s dd) (A j) ∧ 0 ≤ RDs s ds A L (clS s dd) (A j) ∧ RDs s ds A L (clS s dd) (A j) ≤ 2000 := fun j h1 h2 => by
    have := RDs_c hI (ds := ds) (A := A) (L := L) (d := dd) (h := A j)
    exact ⟨b2 j h1 h2, by omega, by omega⟩
  rw [ef]
  rcases W_bf (F := F) (σ := s2) (fr := L) (v := RDs s ds A L (clS s dd)) (a1 := 209 + L) c10 (by omega) C2.2.2.1 (fun i hi => ⟨B2.1 i hi, KP_lt hI hK hi⟩) hcc (cnt - L) F L (by omega) (by omega) (by omega) (fun j h1 h2 => by omega) with ⟨z, e⟩ | ⟨j, h1, h2, h0, e⟩
  · refine ⟨s2, t1.tr t2, Or.inl ⟨?_, fun h hh => ?_, B2⟩⟩
    · rw [show f_Makers_bringForward F (209 + L) s2 (L : Nat) = some (0, s2) from e, bnd_s, gd_t (by omega), if_pos rfl]
    · obtain ⟨i, hi, rfl⟩ := hK.2.2.2 h hh
      by_cases q : L ≤ i
      · rw [z i q hi, Int.zero_emod]
      · exact RD_z hI.1 L hN (by omega)
  · have he := RDs_c hI (ds := ds) (A := A) (L := L) (d := dd) (h := A j)
    have hA' := KP_sw hK (a := L) (b := j) (by omega) h2
    have B3 := HB_sw B2 h1 h2
    have eL : (fun k => A (tau L j k)) L = A j := by show A (tau L j L) = A j; unfold tau; rw [if_pos rfl]
    have C3 : KCm (sA (sA s2 98 j (A L : Nat)) 98 L (A j : Nat)) s cnt := KC_tk hI C2 ⟨fun _ => rfl, fun a h1 h2 h3 i => by rw [gA_sA, if_neg (fun z => h1 z.1), gA_sA, if_neg (fun z => h1 z.1)]⟩
    have hlow : ∀ i, i < L → (fun k => A (tau L j k)) i = A i := fun i hi => by show A (tau L j i) = A i; rw [tau_low h1 hi]
    generalize hs3 : sA (sA s2 98 j (A L : Nat)) 98 L (A j : Nat) = s3 at *
    have k3 : ∀ a, a ≠ 98 → ∀ i, gA s3 a i = gA s2 a i := fun a ha i => by rw [← hs3, gA_sA, if_neg (fun z => ha z.1), gA_sA, if_neg (fun z => ha z.1)]
    have f3 : ∀ q, gF s3 q = gF s2 q := fun q => by rw [← hs3]; rfl
    generalize hA2 : (fun k => A (tau L j k)) = A' at *
    have hrd : ∀ (i : Nat) (v : Nat → Int) (h : Nat), i ≤ L → RDs s ds A' i v h = RDs s ds A i v h := fun i v h hi => RD_congr i (fun _ _ => rfl) (fun q hq => hlow q (by omega))
    have hu : ∀ (i : Nat) (v : Nat → Int) (h : Nat), i ≤ L → RDs s (upN ds L dd) A' i v h = RDs s ds A' i v h := fun i v h hi => RD_congr i (fun q hq => by unfold upN; rw [if_neg (by omega)]) (fun _ _ => rfl)
    have huL : upN ds L dd L = dd := by unfold upN; rw [if_pos rfl]
    have hb3 : ∀ k, L ≤ k → k < cnt → gA s3 (209 + L) (A' k) = RDs s ds A L (clS s dd) (A' k) := fun k q1 q2 => by
      rw [k3 _ (by omega), ← hA2]
      exact b2 _ (tau_ge (by omega) h1 q1) (tau_lt (by omega) h2 q2)
    have hgA : ∀ k, k < cnt → 0 ≤ RDs s ds A L g (A' k) ∧ RDs s ds A L g (A' k) < PR (s 0) := fun k hk => RDs_g hI (hg _ (hA'.2.1 k hk))
    have hL' : gA s3 98 L = (A j : Nat) := by rw [B3.1 L (by omega), eL]
    have hmu := RDs_g hI (ds := ds) (A := A) (L := L) (hg (A j) (hK.2.1 j h2))
    have hr3 : ∀ k, L ≤ k → k < cnt → gA s3 (212 + L) (A' k) = RDs s ds A L g (A' k) := fun k q1 q2 => by rw [B3.2.2 L k (by omega) q1 q2, hrd L _ _ (by omega)]
    obtain ⟨σ', m1, m2, m3, m4, m5⟩ := W_t93 (F := F) hI (S := S) (cnt := cnt) (A := A') (L := L) (E := RDs s ds A L (clS s dd)) (R := RDs s ds A L g) (sc := INV (PR (s 0)) (RDs s ds A L (clS s dd) (A j))) (mu := RDs s ds A L g (A j)) hL (INV_b hI.1 he) hmu (fun k hk => RDs_c hI) hgA hA' (cnt - L) F s3 L (by omega) (by omega) (by omega) C3.1 C3.2.2.1 B3.1 (fun k q1 q2 => by omega) hb3 hr3 (fun k q1 q2 => by omega)
    have t3 : TKF s2 s3 := ⟨f3, fun a q1 q2 q3 i => k3 a q1 i⟩
    have t4 : TKF s3 σ' := ⟨m4, fun a q1 q2 q3 i => m5 a (by omega) (by omega) i⟩
    refine ⟨σ', ((t1.tr t2).tr t3).tr t4, Or.inr ⟨A', ?_, hA', hlow, by omega, ⟨fun i hi => ?_, fun i k q1 q2 q3 => ?_, fun i k q1 q2 q3 => ?_⟩, fun i hi => ?_⟩⟩
    · rw [show f_Makers_bringForward F (209 + L) s2 (L : Nat) = some (RDs s ds A L (clS s dd) (A j), s3) from e, bnd_s, gd_t (by omega), if_neg h0, C3.1, W_inverse (by omega) hI.1 he, bnd_s, gd_t (by omega), gd_t (by omega), hL', gd_t (by have := KP_lt hI hK h2; omega), bv_s, Int.toNat_natCast, ← eL, hr3 L (by omega) (by omega), eL]
      exact m1
    · rw [m5 98 (by omega) (by omega)]; exact B3.1 i hi
    · by_cases q : i = L
      · rw [q, m2 k (by omega) q3]
        unfold BSs BS
        rw [huL]
        show _ = RDs s (upN ds L dd) A' L (clS s dd) (A' k) * INV (PR (s 0)) (RDs s (upN ds L dd) A' L (clS s dd) (A' L)) % PR (s 0)
        rw [hu L _ _ (by omega), hu L _ _ (by omega), hrd L _ _ (by omega), hrd L _ _ (by omega), eL]
      · rw [m5 _ (by omega) (by omega), B3.2.1 i k (by omega) q2 q3]
        exact (BS_congr (fun r hr => by unfold upN; rw [if_neg (by omega)]) (fun _ _ => rfl)).symm
    · by_cases q : i = L + 1
      · rw [q, m3 k (by omega) q3]
        show _ = (RDs s (upN ds L dd) A' L g (A' k) - RDs s (upN ds L dd) A' L g (A' L) * (RDs s (upN ds L dd) A' L (clS s (upN ds L dd L)) (A' k) * INV (PR (s 0)) (RDs s (upN ds L dd) A' L (clS s (upN ds L dd L)) (A' L)) % PR (s 0))) % PR (s 0)
        rw [huL, hu L _ _ (by omega), hu L _ _ (by omega), hu L _ _ (by omega), hu L _ _ (by omega), hrd L _ _ (by omega), hrd L _ _ (by omega), hrd L _ _ (by omega), hrd L _ _ (by omega), eL]
      · rw [m5 _ (by omega) (by omega), B3.2.2 i k (by omega) q2 q3, hu i _ _ (by omega)]
    · by_cases q : i = L
      · rw [q, huL, hu L _ _ (by omega), hrd L _ _ (by omega), eL]; omega
      · rw [hu i _ _ (by omega), hrd i _ _ (by omega), hlow i (by omega), show upN ds L dd i = ds i by unfold upN; rw [if_neg (by omega)]]
        exact hN i (by omega)
end
