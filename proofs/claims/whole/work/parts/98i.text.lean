/-! PURE PART: lines and the text, both -/
section
variable {F : Nat} {b : Nat → Int} {L : Nat} {σ1 σ2 : St}
theorem PO_w1 {o1 o2 : Option (Int × St)} (h : POd L b σ1 σ2 o1 o2) : POd L b σ1 σ2 (bnd o1 fun r σ => gd (isb r) (some (r, σ))) (bnd o2 fun r σ => gd (isb r) (some (r, σ))) := by
  obtain ⟨r, s1, s2, e1, e2, h⟩ := h
  have hr : isb r := by
    rcases h.2.2 with q | q
    · exact Or.inr q.1
    · exact Or.inl q.1
  exact ⟨r, s1, s2, by rw [e1, bnd_s, gd_t hr], by rw [e2, bnd_s, gd_t hr], h⟩
theorem PO_w2 {o1 o2 : Option (Int × St)} (h : POd L b σ1 σ2 o1 o2) : POd L b σ1 σ2 (bnd o1 fun r σ => gd (isb r) (some (r, σ))) o2 := by
  obtain ⟨r, s1, s2, e1, e2, h⟩ := h
  have hr : isb r := by
    rcases h.2.2 with q | q
    · exact Or.inr q.1
    · exact Or.inl q.1
  exact ⟨r, s1, s2, by rw [e1, bnd_s, gd_t hr], e2, h⟩
theorem P_line (hF : 2000 ≤ F) (hL : L ≤ 940) (hb0 : ∀ i, i < 940 → 0 ≤ b i ∧ b i ≤ 255) (hR : RRes σ2) (hT : TBt L b σ1 σ2) (hK : TK L σ1 σ2) (hD : DRd σ1 σ2) : POd L b σ1 σ2 (f_Reader_readLine_scene1 F σ1) (f_M_line F σ2) := by
  have hk := TK_cases hT hK
  by_cases c : gF σ1 197 = 2
  · obtain ⟨h1, h2, h3, h4, hP⟩ : gF σ1 197 = 2 ∧ gF σ2 10 = 1 ∧ gF σ1 199 = gF σ2 16 ∧ rng64 (gF σ2 16) ∧ TPd L b σ1 σ2 := by
      rcases hk with h | h | h | h | h | h
      · exact h
      · exact absurd (h.1.symm.trans c) (by decide)
      · exact absurd (h.1.symm.trans c) (by decide)
      · exact absurd (h.1.symm.trans c) (by decide)
      · exact absurd (h.1.symm.trans c) (by decide)
      · rcases h.1 with g | g
        · exact absurd (g.1.symm.trans c) (by decide)
        · exact absurd (g.symm.trans c) (by decide)
    have mw : ∀ w : Int, rng64 w → f_M_isWord F σ2 w = some (if gF σ2 16 = w then 1 else 0, σ2) := fun w hw => by
      unfold f_M_isWord
      rw [h2, gd_t (by decide), if_pos rfl, gd_t ⟨h4, hw⟩]
      by_cases z : gF σ2 16 = w
      · rw [if_pos z, if_pos z]
      · rw [if_neg z, if_neg z]
    unfold f_Reader_readLine_scene1 f_M_line
    rw [h1, gd_t (by decide), if_pos rfl, h3, mw _ (by decide), bnd_s]
    generalize hw : gF σ2 16 = w at *
    rw [gd_t (by omega)]
    by_cases z0 : w = 30506450281915237
    · rw [if_pos z0, if_pos z0, gd_t (show rng 1 by decide), if_neg (by decide)]
      exact PO_w2 (P_latt hF hL hb0 hP hD)
    rw [if_neg z0, gd_t (by omega), if_neg z0, gd_t (show rng 0 by decide), if_pos rfl, mw _ (by decide), bnd_s]
    by_cases z1 : w = 114784635872626
    · rw [if_pos z1, if_pos z1, gd_t (show rng 1 by decide), if_neg (by decide)]
      exact PO_w1 (P_hear hF hL hb0 hP hD)
    rw [if_neg z1, gd_t (by omega), if_neg z1, gd_t (show rng 0 by decide), if_pos rfl, mw _ (by decide), bnd_s]
    by_cases z2 : w = 126879480964466
    · rw [if_pos z2, if_pos z2, gd_t (show rng 1 by decide), if_neg (by decide)]
      exact PO_w1 (P_send hF hL hb0 hR hP hD)
    rw [if_neg z2, gd_t (by omega), if_neg z2, gd_t (show rng 0 by decide), if_pos rfl, mw _ (by decide), bnd_s]
    by_cases z3 : w = 32497584235442030
    · rw [if_pos z3, if_pos z3, gd_t (show rng 1 by decide), if_neg (by decide)]
      exact PO_w2 (P_stat hF hL hb0 hR hP hD)
    rw [if_neg z3, gd_t (by omega), if_neg z3, gd_t (show rng 0 by decide), if_pos rfl, mw _ (by decide), bnd_s]
    by_cases z4 : w = 27696016923389543
    · rw [if_pos z4, if_pos z4, gd_t (show rng 1 by decide), if_neg (by decide)]
      exact PO_w1 (P_bear hF hL hb0 hR hP hD)
    rw [if_neg z4, if_neg z4, gd_t (show rng 0 by decide), if_pos rfl, blame_e, bnd_s, gd_t (by decide), bad_e, bnd_s, gd_t (by decide)]
    exact PO_fail rfl rfl (FTd_of hK.1 1) (FPd.rf.sF rfl |>.sF rfl) (FQd.rf.sF rfl |>.sF rfl)
  · obtain ⟨r1, n1, r2⟩ : rng (gF σ1 197) ∧ gF σ2 10 ≠ 1 ∧ rng (gF σ2 10) := by omega
    have mw : ∀ w : Int, f_M_isWord F σ2 w = some (0, σ2) := fun w => by
      unfold f_M_isWord
      rw [gd_t (by omega), if_neg n1]
    refine PO_fail ?_ ?_ (FTd_of hK.1 1) (FPd.rf.sF rfl |>.sF rfl) (FQd.rf.sF rfl |>.sF rfl)
    · unfold f_Reader_readLine_scene1
      rw [gd_t (by omega), if_neg c, blame_e, bnd_s, gd_t (by decide)]
    · unfold f_M_line
      rw [mw, bnd_s, gd_t (by decide), if_pos rfl, mw, bnd_s, gd_t (by decide), if_pos rfl, mw, bnd_s, gd_t (by decide), if_pos rfl, mw, bnd_s, gd_t (by decide), if_pos rfl, mw, bnd_s, gd_t (by decide), if_pos rfl, bad_e, bnd_s, gd_t (by decide)]
/-- the line's semicolon -/
theorem P_close (hF : 2000 ≤ F) (hL : L ≤ 940) (hb0 : ∀ i, i < 940 → 0 ≤ b i ∧ b i ≤ 255) (hT : TBt L b σ1 σ2) (hK : TK L σ1 σ2) : (∃ s1 s2, f_Reader_closeLine F σ1 = some (0, s1) ∧ f_M_sign F σ2 59 = some (0, s2) ∧ FTd s1 s2 ∧ FPd σ1 s1 ∧ FQd σ2 s2) ∨ (∃ s1 s2, f_Reader_closeLine F σ1 = some (1, s1) ∧ f_M_sign F σ2 59 = some (1, s2) ∧ TBt L b s1 s2 ∧ TK L s1 s2 ∧ TF1 σ1 s1 ∧ TF2 σ2 s2) := by
  have hk := TK_cases hT hK
  by_cases c : gF σ1 197 = 4
  · obtain ⟨h1, h2, h3, hP⟩ : gF σ1 197 = 4 ∧ gF σ2 10 = 3 ∧ gF σ2 13 = 59 ∧ TPd L b σ1 σ2 := by
      rcases hk with h | h | h | h | h | h
      · exact absurd (h.1.symm.trans c) (by decide)
      · exact absurd (h.1.symm.trans c) (by decide)
      · exact h
      · exact absurd (h.1.symm.trans c) (by decide)
      · exact absurd (h.1.symm.trans c) (by decide)
      · rcases h.1 with g | g
        · exact absurd (g.1.symm.trans c) (by decide)
        · exact absurd (g.symm.trans c) (by decide)
    obtain ⟨s1, s2, a1, a2, a3, a4, a5, a6⟩ := ADVp hF hL hb0 hP
    refine Or.inr ⟨s1, s2, ?_, ?_, a3, a4, a5, a6⟩
    · unfold f_Reader_closeLine
      rw [h1, gd_t (by decide), if_pos rfl, a1, bnd_s]
    · unfold f_M_sign f_M_isSign
      rw [h2, gd_t (by decide), if_pos rfl, h3, gd_t (by decide), if_pos rfl, bnd_s, gd_t (by decide), if_neg (by decide), a2, bnd_s]
  · have hr : rng (gF σ1 197) ∧ rng (gF σ2 10) := by omega
    have sg : f_M_isSign F σ2 59 = some (0, σ2) := by
      unfold f_M_isSign
      by_cases z : gF σ2 10 = 3
      · have : gF σ2 13 = 45 := by
          rcases hk with h | h | h | h | h | h
          · exact absurd (h.2.1.symm.trans z) (by decide)
          · exact absurd (h.2.1.symm.trans z) (by decide)
          · exact absurd h.1 c
          · exact h.2.2.1
          · exact absurd (h.2.1.symm.trans z) (by decide)
          · exact absurd (h.2.symm.trans z) (by decide)
        rw [z, gd_t (by decide), if_pos rfl, this, gd_t (by decide), if_neg (by decide)]
      · rw [gd_t (by omega), if_neg z]
    refine Or.inl ⟨_, _, ?_, ?_, FTd_of hK.1 1, FPd.rf.sF rfl |>.sF rfl, FQd.rf.sF rfl |>.sF rfl⟩
    · unfold f_Reader_closeLine
      rw [gd_t (by omega), if_neg c, blame_e, bnd_s, gd_t (by decide)]
    · unfold f_M_sign
      rw [sg, bnd_s, gd_t (by decide), if_pos rfl, bad_e, bnd_s, gd_t (by decide)]
theorem CNc_le (hD : DRd σ1 σ2) : CNc σ1 ≤ 29 := by
  unfold CNc
  have h1 := hD.2.1
  have h2 := hD.2.2.1
  have h3 := hD.2.2.2.1
  have h4 := hD.2.2.2.2.1
  have h5 := hD.2.2.2.2.2.2.2.2.2.2.2.2.2
  omega
def FQe (σ σ' : St) : Prop := (∀ q, fqF q = false → q ≠ 18 → gF σ' q = gF σ q) ∧ ∀ a, a ≠ 3 → a ≠ 4 → ∀ i, gA σ' a i = gA σ a i
theorem FQd.e {a b : St} (h : FQd a b) : FQe a b := ⟨fun q hq _ => h.1 q hq, h.2⟩
theorem FQe.tr {a b c : St} (h : FQe a b) (g : FQe b c) : FQe a c := ⟨fun q hq h8 => (g.1 q hq h8).trans (h.1 q hq h8), fun x h1 h2 i => (g.2 x h1 h2 i).trans (h.2 x h1 h2 i)⟩
/-- the lines, one by one -/
theorem FLD (hF : 2000 ≤ F) (hL : L ≤ 940) (hb0 : ∀ i, i < 940 → 0 ≤ b i ∧ b i ≤ 255) : ∀ (d m m2 : Nat) (σ1 σ2 : St) (n : Nat), d < m → d < m2 → CNc σ1 + d = 30 → n + d ≤ 40 → RRes σ2 → TBt L b σ1 σ2 → TK L σ1 σ2 → DRd σ1 σ2 → gF σ2 18 = (n : Nat) → ∃ s1 s2, FPd σ1 s1 ∧ FQe σ2 s2 ∧ ((l_Reader_readInto_scene1_47 F m σ1 (n : Nat) = some (-1, s1) ∧ l_M_field_60 F m2 σ2 = some (-1 - gF s2 15, s2) ∧ FTd s1 s2) ∨ (∃ n' : Nat, n' ≤ 40 ∧ l_Reader_readInto_scene1_47 F m σ1 (n : Nat) = (bnd (f_Reader_readToEnd_scene1 F s1) fun r15 σ16 => gd (rng r15) (if r15 = 0 then some ((-1), σ16) else some ((n' : Nat), σ16))) ∧ l_M_field_60 F m2 σ2 = l_M_field_105 F F s2 0 ∧ gF s2 18 = (n' : Nat) ∧ TBt L b s1 s2 ∧ L ≤ 900 ∧ DRd s1 s2 ∧ gF s1 193 = gF σ1 193 ∧ gF s2 14 = gF σ2 14))
  | _, 0, _, _, _, _, h, _, _, _, _, _, _, _, _ => absurd h (Nat.not_lt_zero _)
  | _, _ + 1, 0, _, _, _, _, h, _, _, _, _, _, _, _ => absurd h (Nat.not_lt_zero _)
  | 0, m + 1, m2 + 1, σ1, σ2, n, _, _, hc, _, _, _, _, hD, _ => by
    have := CNc_le hD
    omega
  | d + 1, m + 1, m2 + 1, σ1, σ2, n, hm, hm2, hc, hn, hR, hT, hK, hD, h18 => by
    have hk := TK_cases hT hK
    have hat := hK.1
    have r1 : rng (gF σ1 197) ∧ rng (gF σ2 10) := by omega
    have ec : ∀ X : Option (Int × St), l_Reader_readInto_scene1_47 F (m + 1) σ1 (n : Nat) = if gF σ1 197 = 0 then (bnd (f_Reader_readToEnd_scene1 F σ1) fun r15 σ16 => gd (rng r15) (if r15 = 0 then some ((-1), σ16) else some ((n : Nat), σ16))) else (bnd (f_Reader_readLine_scene1 F σ1) fun r10 σ11 => gd (rng r10) (if r10 = 0 then some ((-1), σ11) else bnd (f_Reader_closeLine F σ11) fun r12 σ13 => gd (rng r12) (if r12 = 0 then some ((-1), σ13) else bv ((n : Int) + 1) fun x3_14 => l_Reader_readInto_scene1_47 F m σ13 x3_14))) := fun _ => by
      show b_Reader_readInto_scene1_47 F _ σ1 _ = _
      unfold b_Reader_readInto_scene1_47
      rw [gd_t (by omega), if_neg (by omega), gd_t r1.1]
    have em : ∀ X : Option (Int × St), l_M_field_60 F (m2 + 1) σ2 = if gF σ2 10 = 0 then l_M_field_105 F F σ2 0 else (bnd (f_M_line F σ2) fun r16 σ17 => gd (rng r16) (if r16 = 0 then some (((-1) - (gF σ17 15)), σ17) else bnd (f_M_sign F σ17 59) fun r18 σ19 => gd (rng r18) (if r18 = 0 then some (((-1) - (gF σ19 15)), σ19) else bs (sF σ19 18 ((gF σ19 18) + 1)) fun σ20 => l_M_field_60 F m2 σ20))) := fun _ => by
      show b_M_field_60 F _ σ2 = _
      unfold b_M_field_60
      rw [gd_t r1.2]
    by_cases z : gF σ2 10 = 0
    · obtain ⟨h1, -, h3⟩ : gF σ1 197 = 0 ∧ gF σ2 10 = 0 ∧ L ≤ 900 := by
        rcases hk with h | h | h | h | h | h
        · exact absurd (h.2.1.symm.trans z) (by decide)
        · exact absurd (h.2.1.symm.trans z) (by decide)
        · exact absurd (h.2.1.symm.trans z) (by decide)
        · exact absurd (h.2.1.symm.trans z) (by decide)
        · exact h
        · exact absurd (h.2.symm.trans z) (by decide)
      refine ⟨σ1, σ2, FPd.rf, FQd.rf.e, Or.inr ⟨n, by omega, ?_, ?_, h18, hT, h3, hD, rfl, rfl⟩⟩
      · rw [ec none, if_pos h1]
      · rw [em none, if_pos z]
    · by_cases y : gF σ1 197 = 0
      · obtain ⟨h1, h2, h3, h4⟩ : gF σ1 197 = 0 ∧ 900 < L ∧ gF σ1 198 = 900 ∧ gF σ2 10 = 4 := by
          rcases hk with h | h | h | h | h | h
          · exact absurd (h.1.symm.trans y) (by decide)
          · exact absurd (h.1.symm.trans y) (by decide)
          · exact absurd (h.1.symm.trans y) (by decide)
          · exact absurd (h.1.symm.trans y) (by decide)
          · exact absurd h.2.1 z
          · rcases h.1 with g | g
            · exact ⟨g.1, g.2.1, g.2.2, h.2⟩
            · exact absurd (g.symm.trans y) (by decide)
        have mw : ∀ w : Int, f_M_isWord F σ2 w = some (0, σ2) := fun w => by
          unfold f_M_isWord
          rw [gd_t (by omega), if_neg (by omega)]
        have ml : f_M_line F σ2 = some (0, sF (sF σ2 14 1) 15 (gF σ2 11)) := by
          unfold f_M_line
          rw [mw, bnd_s, gd_t (by decide), if_pos rfl, mw, bnd_s, gd_t (by decide), if_pos rfl, mw, bnd_s, gd_t (by decide), if_pos rfl, mw, bnd_s, gd_t (by decide), if_pos rfl, mw, bnd_s, gd_t (by decide), if_pos rfl, bad_e, bnd_s, gd_t (by decide)]
        have ce : f_Reader_readToEnd_scene1 F σ1 = some (0, sF (sF σ1 193 1) 192 (gF σ1 198)) := by
          unfold f_Reader_readToEnd_scene1
          rw [hT.2.1, gd_t (by omega), if_neg (by omega), blame_e, bnd_s, gd_t (by decide)]
        refine ⟨_, _, FPd.rf.sF rfl |>.sF rfl, (FQd.rf.sF rfl |>.sF rfl).e, Or.inl ⟨?_, ?_, FTd_of hat 1⟩⟩
        · rw [ec none, if_pos y, ce, bnd_s, gd_t (by decide), if_pos rfl]
        · rw [em none, if_neg z, ml, bnd_s, gd_t (by decide), if_pos rfl]
      · obtain ⟨r, s1, s2, e1, e2, e3, e4, ⟨rfl, e5, e6, e7, e8, e9, e10⟩ | ⟨rfl, e5⟩⟩ := P_line (F := F) hF hL hb0 hR hT hK hD
        · have ec1 : ∀ X : Option (Int × St), l_Reader_readInto_scene1_47 F (m + 1) σ1 (n : Nat) = bnd (f_Reader_closeLine F s1) fun r12 σ13 => gd (rng r12) (if r12 = 0 then some ((-1), σ13) else bv ((n : Int) + 1) fun x3_14 => l_Reader_readInto_scene1_47 F m σ13 x3_14) := fun _ => by
            rw [ec none, if_neg y, e1, bnd_s, gd_t (by decide), if_neg (by decide)]
          have em1 : ∀ X : Option (Int × St), l_M_field_60 F (m2 + 1) σ2 = bnd (f_M_sign F s2 59) fun r18 σ19 => gd (rng r18) (if r18 = 0 then some (((-1) - (gF σ19 15)), σ19) else bs (sF σ19 18 ((gF σ19 18) + 1)) fun σ20 => l_M_field_60 F m2 σ20) := fun _ => by
            rw [em none, if_neg z, e2, bnd_s, gd_t (by decide), if_neg (by decide)]
          rcases P_close (F := F) hF hL hb0 e5 e6 with ⟨t1, t2, k1, k2, k3, k4, k5⟩ | ⟨t1, t2, k1, k2, k3, k4, k5, k6⟩
          · refine ⟨t1, t2, e3.tr k4, (e4.tr k5).e, Or.inl ⟨?_, ?_, k3⟩⟩
            · rw [ec1 none, k1, bnd_s, gd_t (by decide), if_pos rfl]
            · rw [em1 none, k2, bnd_s, gd_t (by decide), if_pos rfl]
          · have hD' : DRd t1 (sF t2 18 ((n : Int) + 1)) := DRd_c (DRd_t e7 k5 k6) (fun _ _ => rfl) (fun _ _ _ _ => rfl) (fun _ => rfl) (fun _ => rfl) rfl
            have t18 : gF t2 18 = (n : Nat) := by rw [k6.f (by omega), e4.1 18 rfl]; exact h18
            have hcn : CNc t1 = CNc σ1 + 1 := by
              rw [← e8]
              unfold CNc
              rw [k5.f (by omega), k5.f (by omega), k5.f (by omega), k5.f (by omega), k5.f (by omega)]
            have fq : FQe σ2 (sF t2 18 ((n : Int) + 1)) := (e4.e.tr k6.Q.e).tr ⟨fun q _ h8 => by rw [gF_sF, if_neg h8], fun _ _ _ _ => rfl⟩
            obtain ⟨f1, f2, g1, g2, g3⟩ := FLD hF hL hb0 d m m2 t1 (sF t2 18 ((n : Int) + 1)) (n + 1) (by omega) (by omega) (by omega) (by omega) (by
              unfold RRes
              simp only [fq.2 5 (by omega) (by omega)]
              exact hR) (TBt_c k3 rfl (fun _ => rfl) rfl rfl (fun _ => rfl)) (TK_c k4 (fun _ _ _ => rfl) (fun q hq => by rw [gF_sF, if_neg (by omega)])) hD' (by rw [gF_eq]; omega)
            have ec2 : l_Reader_readInto_scene1_47 F (m + 1) σ1 (n : Nat) = l_Reader_readInto_scene1_47 F m t1 ((n + 1 : Nat) : Int) := by
              rw [ec1 none, k1, bnd_s, gd_t (by decide), if_neg (by decide), bv_s]; rfl
            have em2 : l_M_field_60 F (m2 + 1) σ2 = l_M_field_60 F m2 (sF t2 18 ((n : Int) + 1)) := by
              rw [em1 none, k2, bnd_s, gd_t (by decide), if_neg (by decide), t18, bs_s]
            refine ⟨f1, f2, (e3.tr k5.P).tr g1, fq.tr g2, ?_⟩
            rw [ec2, em2]
            rcases g3 with g3 | ⟨n', i1, i2, i3, i4, i5, i6, i7, i8, i9⟩
            · exact Or.inl g3
            · refine Or.inr ⟨n', i1, i2, i3, i4, i5, i6, i7, ?_, ?_⟩
              · rw [i8, k5.f (by omega), e9]
              · rw [i9, gF_sF, if_neg (by omega), k6.f (by omega), e10]
        · refine ⟨s1, s2, e3, e4.e, Or.inl ⟨?_, ?_, e5⟩⟩
          · rw [ec none, if_neg y, e1, bnd_s, gd_t (by decide), if_pos rfl]
          · rw [em none, if_neg z, e2, bnd_s, gd_t (by decide), if_pos rfl]
/-- the draft is emptied, the model's -/
theorem M_f29 : ∀ (d m : Nat) (σ : St) (k : Nat), d < m → k + d = 82 → (∀ i, i < k → gA σ 3 i = 0) → ∃ σ', l_M_field_29 F m σ (k : Nat) = (bnd (f_M_next F (sA σ' 3 0 12)) fun r8 σ9 => l_M_field_60 F F σ9) ∧ (∀ i, i < 82 → gA σ' 3 i = 0) ∧ (∀ q, gF σ' q = gF σ q) ∧ ∀ a, a ≠ 3 → ∀ i, gA σ' a i = gA σ a i
  | _, 0, _, _, h, _, _ => absurd h (Nat.not_lt_zero _)
  | 0, m + 1, σ, k, _, hk, h => by
    refine ⟨σ, ?_, fun i hi => h i (by omega), fun _ => rfl, fun _ _ _ => rfl⟩
    show b_M_field_29 F _ σ _ = _
    unfold b_M_field_29
    rw [gd_t (by omega), if_pos (by omega), gd_t (by decide), bs_s]; rfl
  | d + 1, m + 1, σ, k, hm, hk, h => by
    obtain ⟨σ', k1, k2, k3, k4⟩ := M_f29 d m (sA σ 3 k 0) (k + 1) (by omega) (by omega) (fun i hi => by
      rw [gA_sA]
      by_cases z : i = k
      · rw [if_pos ⟨rfl, z⟩]
      · rw [if_neg (fun y => z y.2)]; exact h i (by omega))
    refine ⟨σ', ?_, k2, k3, fun a ha i => by rw [k4 a ha, gA_sA, if_neg (fun z => ha z.1)]⟩
    rw [← k1]
    show b_M_field_29 F _ σ _ = _
    unfold b_M_field_29
    rw [gd_t (by omega), if_neg (by omega), gd_t (by omega), bs_s, bv_s, Int.toNat_natCast]; rfl
/-- the draft is the field now, the model's -/
theorem M_f131 : ∀ (d m : Nat) (σ : St) (k : Nat), d < m → k + d = 10 → ∃ σ', l_M_field_131 F m σ (k : Nat) = (bnd (f_M_settle F σ') fun r10 σ11 => some ((gF σ11 18), σ11)) ∧ (∀ q, gF σ' q = gF σ q) ∧ ∀ a, a ≠ 4 → ∀ i, gA σ' a i = gA σ a i
  | _, 0, _, _, h, _ => absurd h (Nat.not_lt_zero _)
  | 0, m + 1, σ, k, _, hk => by
    refine ⟨σ, ?_, fun _ => rfl, fun _ _ _ => rfl⟩
    show b_M_field_131 F _ σ _ = _
    unfold b_M_field_131
    rw [gd_t (by omega), if_pos (by omega)]
  | d + 1, m + 1, σ, k, hm, hk => by
    obtain ⟨σ', k1, k2, k3⟩ := M_f131 d m (sA σ 4 k (gA σ 4 (Int.toNat (10 + (k : Int))))) (k + 1) (by omega) (by omega)
    refine ⟨σ', ?_, k2, fun a ha i => by rw [k3 a ha, gA_sA, if_neg (fun z => ha z.1)]⟩
    rw [← k1]
    show b_M_field_131 F _ σ _ = _
    unfold b_M_field_131
    rw [gd_t (by omega), if_neg (by omega), gd_t (by omega), gd_t (by omega), bs_s, bv_s, Int.toNat_natCast]; rfl
theorem M_f105 : ∀ (d m : Nat) (σ : St) (k : Nat), d < m → k + d = 82 → (∀ i, i < k → gA σ 2 i = gA σ 3 i) → ∃ σ', l_M_field_105 F m σ (k : Nat) = l_M_field_131 F F σ' 0 ∧ (∀ i, i < 82 → gA σ' 2 i = gA σ 3 i) ∧ (∀ q, gF σ' q = gF σ q) ∧ ∀ a, a ≠ 2 → ∀ i, gA σ' a i = gA σ a i
  | _, 0, _, _, h, _, _ => absurd h (Nat.not_lt_zero _)
  | 0, m + 1, σ, k, _, hk, h => by
    refine ⟨σ, ?_, fun i hi => h i (by omega), fun _ => rfl, fun _ _ _ => rfl⟩
    show b_M_field_105 F _ σ _ = _
    unfold b_M_field_105
    rw [gd_t (by omega), if_pos (by omega)]
  | d + 1, m + 1, σ, k, hm, hk, h => by
    obtain ⟨σ', k1, k2, k3, k4⟩ := M_f105 d m (sA σ 2 k (gA σ 3 k)) (k + 1) (by omega) (by omega) (fun i hi => by
      rw [gA_sA, gA_sA, if_neg (show ¬ (3 = 2 ∧ i = k) by omega)]
      by_cases z : i = k
      · rw [if_pos ⟨rfl, z⟩, z]
      · rw [if_neg (fun y => z y.2)]; exact h i (by omega))
    refine ⟨σ', ?_, fun i hi => by rw [k2 i hi, gA_sA, if_neg (by omega)], k3, fun a ha i => by rw [k4 a ha, gA_sA, if_neg (fun z => ha z.1)]⟩
    rw [← k1]
    show b_M_field_105 F _ σ _ = _
    unfold b_M_field_105
    rw [gd_t (by omega), if_neg (by omega), gd_t (by omega), gd_t (by omega), bs_s, bv_s, Int.toNat_natCast]; rfl
end
