/-! PURE PART: both lists of points are one -/
section
variable {F : Nat} {s : Nat → Int}
def EA (s : Nat → Int) (a b c d : Nat) : Prop := c < d ∧ (d : Int) < s 4 ∧ (c < a ∨ (c = a ∧ d < b))
def LI (s : Nat → Int) (σ1 σ2 : St) (a b : Nat) (rem : Nat) : Prop :=
  (gF σ1 5633 = gF σ2 55 ∧ 0 ≤ gF σ2 55 ∧ gF σ2 55 + rem ≤ 28) ∧
  (∀ j : Nat, (j : Int) < gF σ2 55 → gA σ1 91 j = gA σ2 18 j ∧ gA σ1 92 j = gA σ2 19 j ∧ ∃ c d : Nat, EA s a b c d ∧ crS s c d ∧ gA σ2 19 j = (tg2 s c d : Nat)) ∧
  (∀ c d : Nat, EA s a b c d → crS s c d → ∃ j : Nat, (j : Int) < gF σ2 55 ∧ gA σ2 19 j = (tg2 s c d : Nat))
theorem LI_next (hI : MI s) {σ1 σ2 : St} {a b rem rem' : Nat} (h : LI s σ1 σ2 a b rem) (hr : rem' ≤ rem) {a' b' : Nat} (he : ∀ c d, EA s a b c d → EA s a' b' c d) (he' : ∀ c d, EA s a' b' c d → crS s c d → EA s a b c d) : LI s σ1 σ2 a' b' rem' := by
  obtain ⟨⟨h1, h2, h3⟩, h4, h5⟩ := h
  refine ⟨⟨h1, h2, by omega⟩, fun j hj => ?_, fun c d hcd hc => h5 c d (he' c d hcd hc) hc⟩
  obtain ⟨p, q, c, d, g1, g2, g3⟩ := h4 j hj
  exact ⟨p, q, c, d, he c d g1, g2, g3⟩
theorem LI_seen {σ1 σ2 : St} {a b rem : Nat} (h : LI s σ1 σ2 a b (rem + 1)) (hj : ∃ j : Nat, (j : Int) < gF σ2 55 ∧ gA σ2 19 j = (tg2 s a b : Nat)) : LI s σ1 σ2 a (b + 1) rem := by
  obtain ⟨⟨h1, h2, h3⟩, h4, h5⟩ := h
  refine ⟨⟨h1, h2, by omega⟩, fun j hj => ?_, fun c d hcd hc => ?_⟩
  · obtain ⟨p, q, c, d, g1, g2, g3⟩ := h4 j hj
    exact ⟨p, q, c, d, ⟨g1.1, g1.2.1, by have := g1.2.2; omega⟩, g2, g3⟩
  · by_cases q : c = a ∧ d = b
    · obtain ⟨rfl, rfl⟩ := q; exact hj
    · exact h5 c d ⟨hcd.1, hcd.2.1, by have := hcd.2.2; omega⟩ hc
theorem LI_add (hI : MI s) {σ1 σ2 : St} {a b rem : Nat} (hab : a < b) (hb : (b : Int) < s 4) (hcr : crS s a b) (h : LI s σ1 σ2 a b (rem + 1)) (nm : Int) : LI s (appW σ1 nm (tg2 s a b)) (appM σ2 nm (tg2 s a b)) a (b + 1) rem := by
  obtain ⟨⟨h1, h2, h3⟩, h4, h5⟩ := h
  have e1 : gF (appW σ1 nm (tg2 s a b)) 5633 = gF σ1 5633 + 1 := rfl
  have e2 : gF (appM σ2 nm (tg2 s a b)) 55 = gF σ2 55 + 1 := rfl
  have e3 : ∀ j, gA (appW σ1 nm (tg2 s a b)) 91 j = if j = (gF σ1 5633).toNat then nm else gA σ1 91 j := fun j => by
    show (if (91 : Nat) = 92 ∧ j = (gF σ1 5633).toNat then ((tg2 s a b : Nat) : Int) else if (91 : Nat) = 91 ∧ j = (gF σ1 5633).toNat then nm else gA σ1 91 j) = _
    rw [if_neg (by omega)]
    by_cases q : j = (gF σ1 5633).toNat
    · rw [if_pos ⟨rfl, q⟩, if_pos q]
    · rw [if_neg (fun w => q w.2), if_neg q]
  have e4 : ∀ j, gA (appW σ1 nm (tg2 s a b)) 92 j = if j = (gF σ1 5633).toNat then ((tg2 s a b : Nat) : Int) else gA σ1 92 j := fun j => by
    show (if (92 : Nat) = 92 ∧ j = (gF σ1 5633).toNat then ((tg2 s a b : Nat) : Int) else if (92 : Nat) = 91 ∧ j = (gF σ1 5633).toNat then nm else gA σ1 92 j) = _
    by_cases q : j = (gF σ1 5633).toNat
    · rw [if_pos ⟨rfl, q⟩, if_pos q]
    · rw [if_neg (fun w => q w.2), if_neg (fun w => q w.2), if_neg q]
  have e5 : ∀ j, gA (appM σ2 nm (tg2 s a b)) 18 j = if j = (gF σ2 55).toNat then nm else gA σ2 18 j := fun j => by
    show (if (18 : Nat) = 19 ∧ j = (gF σ2 55).toNat then ((tg2 s a b : Nat) : Int) else if (18 : Nat) = 18 ∧ j = (gF σ2 55).toNat then nm else gA σ2 18 j) = _
    rw [if_neg (by omega)]
    by_cases q : j = (gF σ2 55).toNat
    · rw [if_pos ⟨rfl, q⟩, if_pos q]
    · rw [if_neg (fun w => q w.2), if_neg q]
  have e6 : ∀ j, gA (appM σ2 nm (tg2 s a b)) 19 j = if j = (gF σ2 55).toNat then ((tg2 s a b : Nat) : Int) else gA σ2 19 j := fun j => by
    show (if (19 : Nat) = 19 ∧ j = (gF σ2 55).toNat then ((tg2 s a b : Nat) : Int) else if (19 : Nat) = 18 ∧ j = (gF σ2 55).toNat then nm else gA σ2 19 j) = _
    by_cases q : j = (gF σ2 55).toNat
    · rw [if_pos ⟨rfl, q⟩, if_pos q]
    · rw [if_neg (fun w => q w.2), if_neg (fun w => q w.2), if_neg q]
  refine ⟨⟨by omega, by omega, by omega⟩, fun j hj => ?_, fun c d hcd hc => ?_⟩
  · rw [e3, e4, e5, e6, h1]
    rw [e2] at hj
    by_cases q : j = (gF σ2 55).toNat
    · rw [if_pos q, if_pos q, if_pos q, if_pos q]
      exact ⟨rfl, rfl, a, b, ⟨hab, hb, by omega⟩, hcr, rfl⟩
    · rw [if_neg q, if_neg q, if_neg q, if_neg q]
      obtain ⟨p, q', c, d, g1, g2, g3⟩ := h4 j (by omega)
      exact ⟨p, q', c, d, ⟨g1.1, g1.2.1, by have := g1.2.2; omega⟩, g2, g3⟩
  · by_cases q : c = a ∧ d = b
    · obtain ⟨rfl, rfl⟩ := q
      exact ⟨(gF σ2 55).toNat, by rw [e2]; omega, by rw [e6, if_pos rfl]⟩
    · obtain ⟨j, g1, g2⟩ := h5 c d ⟨hcd.1, hcd.2.1, by have := hcd.2.2; omega⟩ hc
      exact ⟨j, by rw [e2]; omega, by rw [e6, if_neg (by omega)]; exact g2⟩
/-- listed before as touched sets are, met before as points are -/
theorem same_iff (hI : MI s) {σ1 σ2 : St} {a b rem : Nat} (hab : a < b) (hb : (b : Int) < s 4) (hcr : crS s a b) (h : LI s σ1 σ2 a b rem) {cnt : Nat} (hc : gF σ2 55 = (cnt : Nat)) : anyF (fun j => decide (gA σ1 92 j = ((tg2 s a b : Nat) : Int))) cnt 0 = anyF (seB s (pX s a b) (pY s a b) (tT s a b) a b) (a + 1) 0 := by
  obtain ⟨⟨h1, h2, h3⟩, h4, h5⟩ := h
  have i4 := hI.2.2.2.2.1
  rw [Bool.eq_iff_iff, anyF_iff, anyF_iff]
  constructor
  · rintro ⟨j, _, hj, hd⟩
    obtain ⟨p, q, c, d, g1, g2, g3⟩ := h4 j (by omega)
    have e : tg2 s c d = tg2 s a b := by
      have := of_decide_eq_true hd
      rw [q, g3] at this
      omega
    have b1 : (tg2 s a b).testBit c = true := by
      rw [← e]
      unfold tg2
      rw [tg_bit hI (by have := g1.1; have := g1.2.1; omega)]
      exact gt_ownA g2 rfl
    have b2 : (tg2 s a b).testBit d = true := by
      rw [← e]
      unfold tg2
      rw [tg_bit hI g1.2.1]
      exact gt_ownB g2 rfl
    have u := pt_uniq (X := pX s a b) (Y := pY s a b) (T := tT s a b) g2 (by rw [← tg_bit hI (by have := g1.1; have := g1.2.1; omega)]; exact b1) (by rw [← tg_bit hI g1.2.1]; exact b2)
    refine ⟨c, by omega, by have := g1.2.2; omega, ?_⟩
    unfold seB
    rw [anyF_iff]
    refine ⟨d, by have := g1.1; omega, ?_, ?_⟩
    · have := g1.1
      have := g1.2.1
      have := g1.2.2
      split <;> omega
    · unfold smB
      rw [Bool.and_eq_true, Bool.and_eq_true]
      exact ⟨b1, b2, decide_eq_true ⟨g2, u⟩⟩
  · rintro ⟨c, _, hc1, hs⟩
    unfold seB at hs
    rw [anyF_iff] at hs
    obtain ⟨d, k1, k2, k3⟩ := hs
    unfold smB at k3
    rw [Bool.and_eq_true, Bool.and_eq_true] at k3
    obtain ⟨b1, b2, b3⟩ := k3
    obtain ⟨g2, u⟩ := of_decide_eq_true b3
    have hE : EA s a b c d := ⟨by omega, by split at k2 <;> omega, by split at k2 <;> omega⟩
    obtain ⟨j, m1, m2⟩ := h5 c d hE g2
    refine ⟨j, by omega, by omega, decide_eq_true ?_⟩
    rw [(h4 j m1).2.1, m2]
    unfold tg2
    rw [tg_same (tT_pos hcr) (tT_pos g2) u.1 u.2]
theorem WFr_app {σ : St} {nm : Int} {S : Nat} : WFr σ (appW σ nm S) := ((WFr.rf.sA (wSA_hi (by decide))).sA (wSA_hi (by decide))).sF rfl
theorem MFr_app {σ : St} {nm : Int} {S : Nat} : MFr σ (appM σ nm S) := ((MFr.rf.sA rfl).sA rfl).sF rfl
theorem LI_fr {σ1 σ2 σ1' σ2' : St} {a b rem : Nat} (h : LI s σ1 σ2 a b rem) (e1 : gF σ1' 5633 = gF σ1 5633) (e2 : gF σ2' 55 = gF σ2 55) (e3 : ∀ j, gA σ1' 91 j = gA σ1 91 j) (e4 : ∀ j, gA σ1' 92 j = gA σ1 92 j) (e5 : ∀ j, gA σ2' 18 j = gA σ2 18 j) (e6 : ∀ j, gA σ2' 19 j = gA σ2 19 j) : LI s σ1' σ2' a b rem := by
  unfold LI at h ⊢
  rw [e1, e2]
  simp only [e3, e4, e5, e6]
  exact h
theorem pt_row (hF : 40 ≤ F) (hI : MI s) (kW : St → Int → Option (Int × St)) (kM : St → Int → Option (Int × St)) {a R : Nat} : ∀ (d m m' b : Nat) (σ1 σ2 : St), d < m → d < m' → (b : Int) + d = s 4 → a < b → LI s σ1 σ2 a b (R + d) → WV σ1 s → (∀ i, gA σ2 2 i = s i) → ∃ σ1' σ2', l_Fixer_listPoints_compass0_19 F kW m σ1 (a : Nat) (b : Nat) = kW σ1' ((a + 1 : Nat) : Int) ∧ l_M_findPoints_21 F kM m' σ2 (a : Nat) (b : Nat) = kM σ2' ((a + 1 : Nat) : Int) ∧ LI s σ1' σ2' (a + 1) (a + 2) R ∧ WFr σ1 σ1' ∧ MFr σ2 σ2'
  | _, 0, _, _, _, _, h, _, _, _, _, _, _ => by omega
  | _, _, 0, _, _, _, _, h, _, _, _, _, _ => by omega
  | 0, m + 1, m' + 1, b, σ1, σ2, _, _, hb, hab, hL, hW, hV => by
    have i4 := hI.2.2.2.2.1
    have w4 := hW.2.2.2.2.1
    have v4 : gA σ2 2 (Int.toNat 4) = s 4 := hV 4
    refine ⟨σ1, σ2, ?_, ?_, LI_next hI hL (by omega) (fun c d h => ⟨h.1, h.2.1, by have := h.2.2; omega⟩) (fun c d h _ => ⟨h.1, h.2.1, by have := h.1; have := h.2.1; have := h.2.2; omega⟩), WFr.rf, MFr.rf⟩
    · show b_Fixer_listPoints_compass0_19 F kW (l_Fixer_listPoints_compass0_19 F kW m) σ1 (a : Nat) (b : Nat) = _
      unfold b_Fixer_listPoints_compass0_19
      rw [gd_t (by omega), if_pos (by omega), bv_s]; rfl
    · show b_M_findPoints_21 F kM (l_M_findPoints_21 F kM m') σ2 (a : Nat) (b : Nat) = _
      unfold b_M_findPoints_21
      rw [gd_t (by decide), gd_t (by omega), if_pos (by omega), bv_s]; rfl
  | d + 1, m + 1, m' + 1, b, σ1, σ2, hm, hm', hb, hab, hL, hW, hV => by
    have i4 := hI.2.2.2.2.1
    have w4 := hW.2.2.2.2.1
    have v4 : gA σ2 2 (Int.toNat 4) = s 4 := hV 4
    have hbs : (b : Int) < s 4 := by omega
    have hW1 : l_Fixer_listPoints_compass0_19 F kW (m + 1) σ1 (a : Nat) (b : Nat) = bnd (f_Compass_meet_compass0 F σ1 (a : Nat) (b : Nat)) fun r4 σ5 => gd (rng r4) (if r4 = 0 then bv ((b : Int) + 1) fun x3_6 => l_Fixer_listPoints_compass0_19 F kW m σ5 (a : Nat) x3_6 else bnd (f_Compass_throughMeeting_compass0 F σ5) fun r7 σ8 => bnd (f_Fixer_listPoint F σ8 ((10 * (a : Int)) + b) r7) fun r9 σ10 => bv ((b : Int) + 1) fun x3_11 => l_Fixer_listPoints_compass0_19 F kW m σ10 (a : Nat) x3_11) := by
      show b_Fixer_listPoints_compass0_19 F kW (l_Fixer_listPoints_compass0_19 F kW m) σ1 (a : Nat) (b : Nat) = _
      unfold b_Fixer_listPoints_compass0_19
      rw [gd_t (by omega), if_neg (by omega)]
    have hM1 : l_M_findPoints_21 F kM (m' + 1) σ2 (a : Nat) (b : Nat) = bnd (f_M_crosses F σ2 (a : Nat) (b : Nat)) fun r4 σ5 => gd (rng r4) (if r4 = 0 then bv ((b : Int) + 1) fun x2_86 => l_M_findPoints_21 F kM m' σ5 (a : Nat) x2_86 else bnd (f_M_throughSet F σ5) fun r6 σ7 => l_M_findPoints_54 F kM (l_M_findPoints_21 F kM m') F σ7 (a : Nat) (b : Nat) r6 1 0) := by
      show b_M_findPoints_21 F kM (l_M_findPoints_21 F kM m') σ2 (a : Nat) (b : Nat) = _
      unfold b_M_findPoints_21
      rw [gd_t (by decide), gd_t (by omega), if_neg (by omega)]
    rw [hW1, hM1]
    by_cases hcr : crS s a b
    · have pb := pt_b hI (a := (a : Int)) (b := (b : Int)) (by omega) (by omega)
      have hP : ptB (pX s a b) (pY s a b) (tT s a b) := ⟨by omega, by omega, by omega⟩
      have tl := tg2_lt hI (a : Int) (b : Int)
      obtain ⟨cnt, hcnt⟩ := Int.eq_ofNat_of_zero_le hL.1.2.1
      have hL3 := hL.1.2.2
      have hL1 := hL.1.1
      have hLc : LI s (crW σ1 s a b) (crM σ2 s a b) a b (R + (d + 1)) := LI_fr hL rfl rfl (fun _ => rfl) (fun _ => rfl) (fun _ => rfl) (fun _ => rfl)
      have hsame := same_iff hI hab hbs hcr hLc (cnt := cnt) hcnt
      have hlp := W_lp (F := F) (σ := crW σ1 s a b) (cnt := cnt) (show gF σ1 5633 = _ by omega) (by omega) (nm := 10 * (a : Int) + b) (S := tg2 s a b) tl (fun j hj => by
        obtain ⟨p, q, c, d, g1, g2, g3⟩ := hLc.2.1 j (by rw [show gF (crM σ2 s a b) 55 = gF σ2 55 from rfl]; omega)
        rw [q, g3]
        have := tg2_lt hI (c : Int) (d : Int)
        omega) cnt F 0 (by omega) (by omega)
      have h54 := M_54 (F := F) (by omega) hI kM (l_M_findPoints_21 F kM m') (σ := crM σ2 s a b) (X := pX s a b) (Y := pY s a b) (T := tT s a b) hV rfl rfl rfl hP tl hbs hab (show 0 ≤ gF σ2 55 ∧ gF σ2 55 < 28 by omega) (a + 1) F 0 true (by omega) (by omega)
      rw [(W_meet (F := F) hI hW (a := (a : Int)) (b := (b : Int)) (by omega) (by omega)).1 hcr, bnd_s, gd_t (by decide), if_neg (by decide), W_throughM (by omega) hI (WV_fr hW crW_fr) (X := pX s a b) (Y := pY s a b) (T := tT s a b) rfl rfl rfl hP, bnd_s]
      rw [M_cross1 hI hV (by omega) (by omega) hcr, bnd_s, gd_t (by decide), if_neg (by decide), M_throughSet (by omega) hI (σ := crM σ2 s a b) hV (X := pX s a b) (Y := pY s a b) (T := tT s a b) rfl rfl rfl hP, bnd_s]
      rw [show f_Fixer_listPoint F (crW σ1 s a b) (10 * (a : Int) + b) ((tgS s (pX s a b) (pY s a b) (tT s a b) : Nat) : Int) = _ from hlp, bnd_s, bv_s]
      rw [show l_M_findPoints_54 F kM (l_M_findPoints_21 F kM m') F (crM σ2 s a b) (a : Nat) (b : Nat) ((tgS s (pX s a b) (pY s a b) (tT s a b) : Nat) : Int) 1 0 = _ from h54, ← hsame, Bool.true_and]
      cases q : anyF (fun j => decide (gA (crW σ1 s a b) 92 j = ((tg2 s a b : Nat) : Int))) cnt 0 with
      | true =>
        rw [if_pos rfl, Bool.not_true, if_neg Bool.false_ne_true]
        have hL' : LI s (crW σ1 s a b) (crM σ2 s a b) a (b + 1) (R + d) := LI_seen hLc (by
          obtain ⟨j, _, j2, j3⟩ := (anyF_iff _ _).mp q
          have hj : (j : Int) < gF (crM σ2 s a b) 55 := by rw [show gF (crM σ2 s a b) 55 = gF σ2 55 from rfl]; omega
          exact ⟨j, hj, by rw [← (hLc.2.1 j hj).2.1]; exact of_decide_eq_true j3⟩)
        obtain ⟨t1, t2, k1, k2, k3, k4, k5⟩ := pt_row hF hI kW kM (R := R) d m m' (b + 1) _ _ (by omega) (by omega) (by omega) (by omega) hL' (WV_fr hW crW_fr) hV
        exact ⟨t1, t2, k1, k2, k3, crW_fr.tr k4, crM_fr.tr k5⟩
      | false =>
        rw [if_neg Bool.false_ne_true, Bool.not_false, if_pos rfl]
        have hL' := LI_add hI hab hbs hcr hLc (10 * (a : Int) + b)
        obtain ⟨t1, t2, k1, k2, k3, k4, k5⟩ := pt_row hF hI kW kM (R := R) d m m' (b + 1) _ _ (by omega) (by omega) (by omega) (by omega) hL' (WV_fr hW (crW_fr.tr WFr_app)) hV
        exact ⟨t1, t2, k1, k2, k3, (crW_fr.tr WFr_app).tr k4, (crM_fr.tr MFr_app).tr k5⟩
    · rw [(W_meet (F := F) hI hW (a := (a : Int)) (b := (b : Int)) (by omega) (by omega)).2 hcr, bnd_s, gd_t (by decide), if_pos rfl, bv_s]
      rw [M_cross0 hI hV (by omega) (by omega) hcr, bnd_s, gd_t (by decide), if_pos rfl, bv_s]
      exact pt_row hF hI kW kM (R := R) d m m' (b + 1) σ1 σ2 (by omega) (by omega) (by omega) (by omega) (LI_next hI hL (by omega) (fun c d h => ⟨h.1, h.2.1, by have := h.2.2; omega⟩) (fun c d h hc => ⟨h.1, h.2.1, by
        have := h.2.2
        by_cases q : c = a ∧ d = b
        · obtain ⟨rfl, rfl⟩ := q; exact absurd hc hcr
        · omega⟩)) hW hV
end
