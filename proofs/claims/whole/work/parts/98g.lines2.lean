/-! PURE PART: lines, both: station, bearing -/
section
variable {F : Nat} {b : Nat → Int} {L : Nat} {σ1 σ2 : St}
def mSta (F : Nat) (σ8 : St) : Option (Int × St) := gd (inb 3 82) (bv (gA σ8 3 (Int.toNat 3)) fun x1_15 => gd (rng x1_15 ∧ rng 4) (if x1_15 = 4 then bnd (f_M_bad F σ8 4) fun r27 σ28 => gd (isb r27) (some (r27, σ28)) else bnd (f_M_next F σ8) fun r16 σ17 => bnd (f_M_fresh F σ17 (16 + x1_15)) fun r18 σ19 => gd (rng r18) (if r18 = 0 then some (0, σ19) else bnd (f_M_takesSigned F σ19 0) fun r20 σ21 => gd (rng r20) (if r20 = 0 then some (0, σ21) else gd (inb (50 + (2 * x1_15)) 82) (bs (sA σ21 3 (Int.toNat (50 + (2 * x1_15))) (gF σ21 17)) fun σ22 => bnd (f_M_takesSigned F σ22 0) fun r23 σ24 => gd (rng r23) (if r23 = 0 then some (0, σ24) else gd (inb ((50 + (2 * x1_15)) + 1) 82) (bs (sA σ24 3 (Int.toNat ((50 + (2 * x1_15)) + 1)) (gF σ24 17)) fun σ25 => gd (inb 3 82) (gd (inb 3 82) (bs (sA σ25 3 (Int.toNat 3) ((gA σ25 3 (Int.toNat 3)) + 1)) fun σ26 => some (1, σ26))))))))))
theorem P_stat (hF : 2000 ≤ F) (hL : L ≤ 940) (hb0 : ∀ i, i < 940 → 0 ≤ b i ∧ b i ≤ 255) (hR : RRes σ2) (hP : TPd L b σ1 σ2) (hD : DRd σ1 σ2) : POd L b σ1 σ2 (f_Reader_readStation_compass1 F σ1 (gF σ1 5126)) (mSta F σ2) := by
  obtain ⟨c3, c3a, c3b⟩ := hD.2.2.2.1
  obtain ⟨c2, c2a, c2b⟩ := hD.2.2.1
  have hat := hP.2.1
  obtain ⟨k, ek⟩ := Int.eq_ofNat_of_zero_le c3a
  by_cases c4 : k = 4
  · refine PO_fail ?_ ?_ (FTd_of hat 4) (FPd.rf.sF rfl |>.sF rfl) (FQd.rf.sF rfl |>.sF rfl)
    · unfold f_Reader_readStation_compass1
      rw [c3, gd_t (by omega), if_neg (by omega), blame_e, bnd_s, gd_t (by decide)]
    · unfold mSta
      rw [gd_t (by decide), show Int.toNat 3 = 3 from rfl, bv_s, gd_t (by omega), if_pos (by omega), bad_e, bnd_s, gd_t (by decide)]
  · obtain ⟨s1, s2, a1, a2, a3, a4, a5, a6⟩ := ADVp (σ1 := σ1) (σ2 := σ2) hF hL hb0 hP
    have hD1 := DRd_t hD a5 a6
    have e2 : gF σ1 5126 = gA s2 3 2 := by rw [c2, a6.2]
    have e3 : gF s1 2048 = gA s2 3 3 := hD1.2.2.2.1.1
    have ek2 : gA s2 3 3 = (k : Nat) := by rw [a6.2, ek]
    have e3' : gF s1 2048 = (k : Nat) := by rw [e3, ek2]
    have ec : ∀ X : Option (Int × St), f_Reader_readStation_compass1 F σ1 (gF σ1 5126) = bnd (f_Reader_isNewName F s1 (gA s2 3 2) (gA s2 3 3)) fun r3 σ4 => gd (rng r3) (if r3 = 0 then some (0, σ4) else gd (inb (gF σ4 2048) 4) (bs (sA σ4 5 (Int.toNat (gF σ4 2048)) (gF σ4 199)) fun σ5 => bnd (f_Reader_advance F σ5) fun r6 σ7 => bnd (f_Reader_isSigned F σ7) fun r8 σ9 => gd (rng r8) (if r8 = 0 then some (0, σ9) else bv (gF σ9 200) fun x3_10 => bnd (f_Reader_advance F σ9) fun r11 σ12 => bnd (f_Reader_isSigned F σ12) fun r13 σ14 => gd (rng r13) (if r13 = 0 then some (0, σ14) else bnd (f_Compass_addStation_compass1 F σ14 x3_10 (gF σ14 200)) fun r15 σ16 => bnd (f_Reader_advance F σ16) fun r17 σ18 => some (1, σ18))))) := fun _ => by
      unfold f_Reader_readStation_compass1
      rw [c3, gd_t (by omega), if_pos (by omega), a1, bnd_s, e2, e3]
    have em : ∀ X : Option (Int × St), mSta F σ2 = bnd (f_M_fresh F s2 ((16 + k : Nat) : Int)) fun r18 σ19 => gd (rng r18) (if r18 = 0 then some (0, σ19) else bnd (f_M_takesSigned F σ19 0) fun r20 σ21 => gd (rng r20) (if r20 = 0 then some (0, σ21) else gd (inb (50 + (2 * (k : Int))) 82) (bs (sA σ21 3 (Int.toNat (50 + (2 * (k : Int)))) (gF σ21 17)) fun σ22 => bnd (f_M_takesSigned F σ22 0) fun r23 σ24 => gd (rng r23) (if r23 = 0 then some (0, σ24) else gd (inb ((50 + (2 * (k : Int))) + 1) 82) (bs (sA σ24 3 (Int.toNat ((50 + (2 * (k : Int))) + 1)) (gF σ24 17)) fun σ25 => gd (inb 3 82) (gd (inb 3 82) (bs (sA σ25 3 (Int.toNat 3) ((gA σ25 3 (Int.toNat 3)) + 1)) fun σ26 => some (1, σ26)))))))) := fun _ => by
      unfold mSta
      rw [gd_t (by decide), show Int.toNat 3 = 3 from rfl, bv_s, gd_t (by omega), if_neg (by omega), a2, bnd_s, ek, show (16 : Int) + (k : Int) = ((16 + k : Nat) : Int) by omega]
    rcases T_new (F := F) (by omega) (RRes_q hR a6.Q) a3 a4 hD1 with ⟨t1, t2, k1, k2, k3, k4, k5⟩ | ⟨k1, k2, k3, k4, k5⟩
    · refine PO_fail (s1 := t1) (s2 := t2) ?_ ?_ k3 (a5.P.tr k4) (a6.Q.tr k5)
      · rw [ec none, k1, bnd_s, gd_t (by decide), if_pos rfl]
      · rw [em none, k2, bnd_s, gd_t (by decide), if_pos rfl]
    · generalize hw : gF s2 16 = w at *
      obtain ⟨u1, u2, b1, b2, b3, b4, b5, b6⟩ := ADVp (σ1 := sA s1 5 k w) (σ2 := sA s2 4 (16 + k) w) hF hL hb0 (TPd_c k5 rfl rfl rfl (fun i => by rw [gA_sA, if_neg (by omega)]) rfl rfl rfl rfl (fun i => by rw [gA_sA, if_neg (by omega)]))
      have p1 : FPd σ1 u1 := (a5.P.sA rfl).tr b5.P
      have q1 : FQd σ2 u2 := (a6.Q.sA (Or.inr rfl)).tr b6.Q
      have ec2 : ∀ X : Option (Int × St), f_Reader_readStation_compass1 F σ1 (gF σ1 5126) = bnd (f_Reader_isSigned F u1) fun r8 σ9 => gd (rng r8) (if r8 = 0 then some (0, σ9) else bv (gF σ9 200) fun x3_10 => bnd (f_Reader_advance F σ9) fun r11 σ12 => bnd (f_Reader_isSigned F σ12) fun r13 σ14 => gd (rng r13) (if r13 = 0 then some (0, σ14) else bnd (f_Compass_addStation_compass1 F σ14 x3_10 (gF σ14 200)) fun r15 σ16 => bnd (f_Reader_advance F σ16) fun r17 σ18 => some (1, σ18))) := fun _ => by
        rw [ec none, k1, bnd_s, gd_t (by decide), if_neg (by decide), e3', gd_t (by omega), bs_s, Int.toNat_natCast, k3, b1, bnd_s]
      have em2 : ∀ X : Option (Int × St), mSta F σ2 = bnd (f_M_takesSigned F u2 0) fun r20 σ21 => gd (rng r20) (if r20 = 0 then some (0, σ21) else gd (inb (50 + (2 * (k : Int))) 82) (bs (sA σ21 3 (Int.toNat (50 + (2 * (k : Int)))) (gF σ21 17)) fun σ22 => bnd (f_M_takesSigned F σ22 0) fun r23 σ24 => gd (rng r23) (if r23 = 0 then some (0, σ24) else gd (inb ((50 + (2 * (k : Int))) + 1) 82) (bs (sA σ24 3 (Int.toNat ((50 + (2 * (k : Int))) + 1)) (gF σ24 17)) fun σ25 => gd (inb 3 82) (gd (inb 3 82) (bs (sA σ25 3 (Int.toNat 3) ((gA σ25 3 (Int.toNat 3)) + 1)) fun σ26 => some (1, σ26))))))) := fun _ => by
        rw [em none, k2 (16 + k) (by omega), b2, bnd_s, bnd_s, gd_t (by decide), if_neg (by decide)]
      rcases T_sgn (F := F) hF hL hb0 b3 b4 with ⟨t1, t2, l1, l2, l3, l4, l5⟩ | ⟨t1, tmE, v, v0, v1, l1, l2, l3, l4, l5, l6⟩
      · refine PO_fail (s1 := t1) (s2 := t2) ?_ ?_ l3 (p1.tr l4) (q1.tr l5)
        · rw [ec2 none, l1, bnd_s, gd_t (by decide), if_pos rfl]
        · rw [em2 none, l2 0 (Or.inl rfl), bnd_s, gd_t (by decide), if_pos rfl]
      · have l60 := l6 0 (Or.inl rfl)
        rw [if_neg (fun z => absurd z.1 (by decide))] at l60
        obtain ⟨y1, y2, d1, d2, d3, d4, d5, d6⟩ := ADVp (σ1 := t1) (σ2 := sF tmE 17 v) hF hL hb0 (TPd_c l3 rfl rfl rfl (fun _ => rfl) rfl rfl rfl rfl (fun _ => rfl))
        have d17 : gF y2 17 = v := by rw [d6.f (by omega), gF_eq]
        have p2 : FPd σ1 y1 := (p1.tr l4.P).tr d5.P
        have q2 : FQd σ2 (sA y2 3 (50 + 2 * k) v) := (((q1.tr l5.Q).sF rfl).tr d6.Q).sA (Or.inl rfl)
        have ec3 : ∀ X : Option (Int × St), f_Reader_readStation_compass1 F σ1 (gF σ1 5126) = bnd (f_Reader_isSigned F y1) fun r13 σ14 => gd (rng r13) (if r13 = 0 then some (0, σ14) else bnd (f_Compass_addStation_compass1 F σ14 v (gF σ14 200)) fun r15 σ16 => bnd (f_Reader_advance F σ16) fun r17 σ18 => some (1, σ18)) := fun _ => by
          rw [ec2 none, l1, bnd_s, gd_t (by decide), if_neg (by decide), bv_s, d1, bnd_s, l2]
        have em3 : ∀ X : Option (Int × St), mSta F σ2 = bnd (f_M_takesSigned F (sA y2 3 (50 + 2 * k) v) 0) fun r23 σ24 => gd (rng r23) (if r23 = 0 then some (0, σ24) else gd (inb ((50 + (2 * (k : Int))) + 1) 82) (bs (sA σ24 3 (Int.toNat ((50 + (2 * (k : Int))) + 1)) (gF σ24 17)) fun σ25 => gd (inb 3 82) (gd (inb 3 82) (bs (sA σ25 3 (Int.toNat 3) ((gA σ25 3 (Int.toNat 3)) + 1)) fun σ26 => some (1, σ26))))) := fun _ => by
          rw [em2 none, l60, d2, bnd_s, bnd_s, gd_t (by decide), if_neg (by decide), gd_t (by omega), bs_s, d17, show Int.toNat (50 + 2 * (k : Int)) = 50 + 2 * k by omega]
        rcases T_sgn (F := F) (σ1 := y1) (σ2 := sA y2 3 (50 + 2 * k) v) hF hL hb0 (TBt_c d3 rfl (fun _ => rfl) rfl rfl (fun i => by rw [gA_sA, if_neg (by omega)])) (TK_c d4 (fun _ _ _ => rfl) (fun _ _ => rfl)) with ⟨x1, x2, n1, n2, n3, n4, n5⟩ | ⟨x1, xm, y, y0, y9, n1, n2, n3, n4, n5, n6⟩
        · refine PO_fail (s1 := x1) (s2 := x2) ?_ ?_ n3 (p2.tr n4) (q2.tr n5)
          · rw [ec3 none, n1, bnd_s, gd_t (by decide), if_pos rfl]
          · rw [em3 none, n2 0 (Or.inl rfl), bnd_s, gd_t (by decide), if_pos rfl]
        · have n60 := n6 0 (Or.inl rfl)
          rw [if_neg (fun z => absurd z.1 (by decide))] at n60
          have xF : ∀ q, q < 196 ∨ 200 < q → gF x1 q = gF σ1 q := fun q hq => by
            rw [n4.f hq, d5.f hq, l4.f hq, b5.f hq]
            show gF s1 q = _
            rw [a5.f hq]
          have xA : ∀ a i, gA x1 a i = gA (sA σ1 5 k w) a i := fun a i => by
            rw [n4.2, d5.2, l4.2, b5.2, gA_sA, gA_sA, a5.2]
          have xu : gF x1 2048 = (k : Nat) := by rw [xF _ (by omega), c3, ek]
          have addS : f_Compass_addStation_compass1 F x1 v y = some (0, sF (sA (sA x1 36 k v) 40 k y) 2048 (((k + 1 : Nat)) : Int)) := by
            unfold f_Compass_addStation_compass1
            have g1 : gF (sA x1 36 k v) 2048 = (k : Nat) := xu
            have g2 : gF (sA (sA x1 36 k v) 40 k y) 2048 = (k : Nat) := xu
            rw [xu, gd_t (by omega), if_neg (by omega), gd_t (by omega), bs_s, Int.toNat_natCast, g1, gd_t (by omega), bs_s, Int.toNat_natCast, g2, bs_s]; rfl
          obtain ⟨f1, f2, r1, r2, r3, r4, r5, r6⟩ := ADVp (σ1 := sF (sA (sA x1 36 k v) 40 k y) 2048 (((k + 1 : Nat)) : Int)) (σ2 := sF xm 17 y) hF hL hb0 (TPd_c n3 rfl rfl rfl (fun i => by rw [gA_sF, gA_sA, if_neg (by omega), gA_sA, if_neg (by omega)]) rfl rfl rfl rfl (fun _ => rfl))
          have r17 : gF f2 17 = y := by rw [r6.f (by omega), gF_eq]
          have f3 : ∀ i, gA f2 3 i = if i = 50 + 2 * k then v else gA σ2 3 i := fun i => by
            rw [r6.2]
            show gA xm 3 i = _
            rw [n5.2, gA_sA, d6.2]
            show (if 3 = 3 ∧ i = 50 + 2 * k then v else gA tmE 3 i) = _
            rw [l5.2, b6.2, gA_sA, if_neg (show ¬ (3 = 4 ∧ i = 16 + k) by omega), a6.2]
            by_cases z : i = 50 + 2 * k
            · rw [if_pos ⟨rfl, z⟩, if_pos z]
            · rw [if_neg (fun y => z y.2), if_neg z]
          have f4 : ∀ i, gA f2 4 i = if i = 16 + k then w else gA σ2 4 i := fun i => by
            rw [r6.2]
            show gA xm 4 i = _
            rw [n5.2, gA_sA, if_neg (by omega), d6.2]
            show gA tmE 4 i = _
            rw [l5.2, b6.2, gA_sA, a6.2]
            by_cases z : i = 16 + k
            · rw [if_pos ⟨rfl, z⟩, if_pos z]
            · rw [if_neg (fun y => z y.2), if_neg z]
          have f19 : gF f2 19 = gF σ2 19 := by
            rw [r6.f (by omega), gF_sF, if_neg (by omega), n5.f (by omega)]
            show gF y2 19 = _
            rw [d6.f (by omega), gF_sF, if_neg (by omega), l5.f (by omega), b6.f (by omega)]
            show gF s2 19 = _
            rw [a6.f (by omega)]
          refine ⟨1, f1, sA (sA f2 3 (51 + 2 * k) y) 3 3 (((k + 1 : Nat)) : Int), ?_, ?_, ((((p2.tr n4.P).sA rfl).sA rfl).sF rfl).tr r5.P, ((((q2.tr n5.Q).sF rfl).tr r6.Q).sA (Or.inl rfl)).sA (Or.inl rfl), Or.inl ⟨rfl, TBt_c r3 rfl (fun _ => rfl) rfl rfl (fun i => by rw [gA_sA, if_neg (by omega), gA_sA, if_neg (by omega)]), TK_c r4 (fun _ _ _ => rfl) (fun _ _ => rfl), ?_, ?_, ?_, ?_⟩⟩
          · rw [ec3 none, n1, bnd_s, gd_t (by decide), if_neg (by decide), n2, addS, bnd_s, r1, bnd_s]
          · rw [em3 none, n60, r2, bnd_s, bnd_s, gd_t (by decide), if_neg (by decide), gd_t (by omega), bs_s, gd_t (by decide), gd_t (by decide), bs_s, r17, show Int.toNat (50 + 2 * (k : Int) + 1) = 51 + 2 * k by omega, show Int.toNat 3 = 3 from rfl, gA_sA, if_neg (by omega), f3, if_neg (by omega), ek]; rfl
          · refine DRd_stat hD (k := k) (x := v) (y := y) (w := w) ek (by omega) ⟨v0, v1⟩ ⟨y0, y9⟩ k4 (fun q hq => ?_) ?_ (fun a h1 h2 h3 h4 h5 i => ?_) (fun i => ?_) (fun i => ?_) (fun i => ?_) (fun i h1 h2 h3 => ?_) ?_ ?_ ?_ (fun i hi => ?_) ?_ ?_
            · rw [r5.f (by omega), gF_sF, if_neg (by omega)]; exact xF q (by omega)
            · rw [r5.f (by omega), gF_eq]
            · rw [r5.2, gA_sF, gA_sA, if_neg (fun z => h5 z.1), gA_sA, if_neg (fun z => h4 z.1), xA, gA_sA, if_neg (fun z => h3 z.1)]
            · rw [r5.2, gA_sF, gA_sA, if_neg (by omega), gA_sA, if_neg (by omega), xA, gA_sA]
              by_cases z : i = k
              · rw [if_pos ⟨rfl, z⟩, if_pos z]
              · rw [if_neg (fun y => z y.2), if_neg z]
            · rw [r5.2, gA_sF, gA_sA, if_neg (by omega), gA_sA, xA, gA_sA, if_neg (show ¬ (36 = 5 ∧ i = k) by omega)]
              by_cases z : i = k
              · rw [if_pos ⟨rfl, z⟩, if_pos z]
              · rw [if_neg (fun y => z y.2), if_neg z]
            · rw [r5.2, gA_sF, gA_sA]
              by_cases z : i = k
              · rw [if_pos ⟨rfl, z⟩, if_pos z]
              · rw [if_neg (fun y => z y.2), if_neg z, gA_sA, if_neg (by omega), xA, gA_sA, if_neg (by omega)]
            · rw [gA_sA, if_neg (fun z => h1 z.2), gA_sA, if_neg (fun z => h3 z.2), f3, if_neg h2]
            · rw [gA_sA, if_pos ⟨rfl, rfl⟩]
            · rw [gA_sA, if_neg (by omega), gA_sA, if_neg (by omega), f3, if_pos rfl]
            · rw [gA_sA, if_neg (by omega), gA_sA, if_pos ⟨rfl, rfl⟩]
            · rw [gA_sA, if_neg (by omega), gA_sA, if_neg (by omega), f4, if_neg hi]
            · rw [gA_sA, if_neg (by omega), gA_sA, if_neg (by omega), f4, if_pos rfl]
            · exact f19
          · have g : ∀ q, q = 202 ∨ (2048 < q ∧ q ≤ 5126) → gF f1 q = gF σ1 q := fun q hq => by rw [r5.f (by omega), gF_sF, if_neg (by omega)]; exact xF q (by omega)
            have g2 : gF f1 2048 = ((k + 1 : Nat) : Int) := by rw [r5.f (by omega), gF_eq]
            unfold CNc
            rw [g 5123 (by omega), g 5126 (by omega), g2, g 2051 (by omega), g 202 (by omega), c3, ek]; omega
          · rw [r5.f (by omega), gF_sF, if_neg (by omega)]; exact xF 193 (by omega)
          · show gF f2 14 = _
            rw [r6.f (by omega), gF_sF, if_neg (by omega), n5.f (by omega)]
            show gF y2 14 = _
            rw [d6.f (by omega), gF_sF, if_neg (by omega), l5.f (by omega), b6.f (by omega)]
            show gF s2 14 = _
            rw [a6.f (by omega)]
theorem P_bear (hF : 2000 ≤ F) (hL : L ≤ 940) (hb0 : ∀ i, i < 940 → 0 ≤ b i ∧ b i ≤ 255) (hR : RRes σ2) (hP : TPd L b σ1 σ2) (hD : DRd σ1 σ2) : POd L b σ1 σ2 (f_Reader_readBearing_compass1 F σ1) (f_M_readBearing F σ2) := by
  obtain ⟨c4, c4a, c4b⟩ := hD.2.2.2.2.1
  obtain ⟨c3, c3a, c3b⟩ := hD.2.2.2.1
  have hat := hP.2.1
  obtain ⟨k, ek⟩ := Int.eq_ofNat_of_zero_le c4a
  by_cases c8 : k = 8
  · refine PO_fail ?_ ?_ (FTd_of hat 4) (FPd.rf.sF rfl |>.sF rfl) (FQd.rf.sF rfl |>.sF rfl)
    · unfold f_Reader_readBearing_compass1
      rw [c4, gd_t (by omega), if_neg (by omega), blame_e, bnd_s, gd_t (by decide)]
    · unfold f_M_readBearing
      rw [gd_t (by decide), show Int.toNat 4 = 4 from rfl, bv_s, gd_t (by omega), if_pos (by omega), bad_e, bnd_s, gd_t (by decide)]
  · obtain ⟨s1, s2, a1, a2, a3, a4, a5, a6⟩ := ADVp (σ1 := σ1) (σ2 := σ2) hF hL hb0 hP
    have hD1 := DRd_t hD a5 a6
    have e3 : gF s1 2048 = gA s2 3 3 := hD1.2.2.2.1.1
    have kk : ∃ K : Int → St → Option (Int × St), f_M_readBearing F σ2 = (bnd (f_M_isName F s2) fun r σ => gd (rng r) (if r = 0 then bnd (f_M_bad F σ 1) fun r5 σ6 => gd (isb r5) (some (r5, σ6)) else gd (inb 3 82) (bnd (f_M_find F σ 16 (gA σ 3 (Int.toNat 3))) fun r σ => gd (rng r) (if (0 : Int) ≤ r then K r σ else bnd (f_M_bad F σ 3) fun r5 σ6 => gd (isb r5) (some (r5, σ6)))))) ∧ K = fun r6 σ7 => bnd (f_M_next F σ7) fun r8 σ9 => bnd (f_M_takesSigned F σ9 0) fun r10 σ11 => gd (rng r10) (if r10 = 0 then some (0, σ11) else bv (gF σ11 17) fun x3_12 => gd (rng x3_12) (if x3_12 = 0 then bnd (f_M_takesSigned F σ11 1) fun r19 σ20 => gd (rng r19) (if r19 = 0 then some (0, σ20) else gd (inb (58 + (3 * (k : Int))) 82) (bs (sA σ20 3 (Int.toNat (58 + (3 * (k : Int)))) r6) fun σ21 => gd (inb ((58 + (3 * (k : Int))) + 1) 82) (bs (sA σ21 3 (Int.toNat ((58 + (3 * (k : Int))) + 1)) x3_12) fun σ22 => gd (inb ((58 + (3 * (k : Int))) + 2) 82) (bs (sA σ22 3 (Int.toNat ((58 + (3 * (k : Int))) + 2)) (gF σ22 17)) fun σ23 => gd (inb 4 82) (gd (inb 4 82) (bs (sA σ23 3 (Int.toNat 4) ((gA σ23 3 (Int.toNat 4)) + 1)) fun σ24 => some (1, σ24))))))) else bnd (f_M_takesSigned F σ11 0) fun r13 σ14 => gd (rng r13) (if r13 = 0 then some (0, σ14) else gd (inb (58 + (3 * (k : Int))) 82) (bs (sA σ14 3 (Int.toNat (58 + (3 * (k : Int)))) r6) fun σ15 => gd (inb ((58 + (3 * (k : Int))) + 1) 82) (bs (sA σ15 3 (Int.toNat ((58 + (3 * (k : Int))) + 1)) x3_12) fun σ16 => gd (inb ((58 + (3 * (k : Int))) + 2) 82) (bs (sA σ16 3 (Int.toNat ((58 + (3 * (k : Int))) + 2)) (gF σ16 17)) fun σ17 => gd (inb 4 82) (gd (inb 4 82) (bs (sA σ17 3 (Int.toNat 4) ((gA σ17 3 (Int.toNat 4)) + 1)) fun σ18 => some (1, σ18))))))))) := by
      refine ⟨_, ?_, rfl⟩
      unfold f_M_readBearing
      rw [gd_t (by decide), show Int.toNat 4 = 4 from rfl, bv_s, gd_t (by omega), if_neg (by omega), a2, bnd_s, ek]
    obtain ⟨K, em, hK⟩ := kk
    have ec : ∀ X : Option (Int × St), f_Reader_readBearing_compass1 F σ1 = bnd (f_Reader_namedOne_stationName F s1 (gA s2 3 3)) fun r3 σ4 => gd (rng r3 ∧ rng (-1)) (if r3 = (-1) then some (0, σ4) else bnd (f_Reader_advance F σ4) fun r5 σ6 => bnd (f_Reader_isSigned F σ6) fun r7 σ8 => gd (rng r7) (if r7 = 0 then some (0, σ8) else bv (gF σ8 200) fun x3_9 => bnd (f_Reader_advance F σ8) fun r10 σ11 => bnd (f_Reader_isSigned F σ11) fun r12 σ13 => gd (rng r12) (if r12 = 0 then some (0, σ13) else gd (rng x3_9) (if x3_9 = 0 then gd (rng (gF σ13 200)) (if (gF σ13 200) = 0 then bnd (f_Reader_blame F σ13 2) fun r22 σ23 => gd (isb r22) (some (r22, σ23)) else bnd (f_Compass_addBearing_compass1 F σ13 r3 x3_9 (gF σ13 200)) fun r18 σ19 => bnd (f_Reader_advance F σ19) fun r20 σ21 => some (1, σ21)) else bnd (f_Compass_addBearing_compass1 F σ13 r3 x3_9 (gF σ13 200)) fun r14 σ15 => bnd (f_Reader_advance F σ15) fun r16 σ17 => some (1, σ17))))) := fun _ => by
      unfold f_Reader_readBearing_compass1
      rw [c4, gd_t (by omega), if_pos (by omega), a1, bnd_s, e3]
    rcases T_onet (F := F) (by omega) (RRes_q hR a6.Q) a3 a4 hD1 with ⟨t1, t2, k1, k2, k3, k4, k5⟩ | ⟨o, k1, k2, k3, k4, k5⟩
    · refine PO_fail (s1 := t1) (s2 := t2) ?_ ?_ k3 (a5.P.tr k4) (a6.Q.tr k5)
      · rw [ec none, k1, bnd_s, gd_t (by decide), if_pos rfl]
      · rw [em]; exact k2 K
    · have em1 : f_M_readBearing F σ2 = K o s2 := em.trans (k2 K)
      rw [a6.2] at k4
      obtain ⟨u1, u2, b1, b2, b3, b4, b5, b6⟩ := ADVp (σ1 := s1) (σ2 := s2) hF hL hb0 k5
      have p1 : FPd σ1 u1 := a5.P.tr b5.P
      have q1 : FQd σ2 u2 := a6.Q.tr b6.Q
      have ec2 : ∀ X : Option (Int × St), f_Reader_readBearing_compass1 F σ1 = bnd (f_Reader_isSigned F u1) fun r7 σ8 => gd (rng r7) (if r7 = 0 then some (0, σ8) else bv (gF σ8 200) fun x3_9 => bnd (f_Reader_advance F σ8) fun r10 σ11 => bnd (f_Reader_isSigned F σ11) fun r12 σ13 => gd (rng r12) (if r12 = 0 then some (0, σ13) else gd (rng x3_9) (if x3_9 = 0 then gd (rng (gF σ13 200)) (if (gF σ13 200) = 0 then bnd (f_Reader_blame F σ13 2) fun r22 σ23 => gd (isb r22) (some (r22, σ23)) else bnd (f_Compass_addBearing_compass1 F σ13 o x3_9 (gF σ13 200)) fun r18 σ19 => bnd (f_Reader_advance F σ19) fun r20 σ21 => some (1, σ21)) else bnd (f_Compass_addBearing_compass1 F σ13 o x3_9 (gF σ13 200)) fun r14 σ15 => bnd (f_Reader_advance F σ15) fun r16 σ17 => some (1, σ17)))) := fun _ => by
        rw [ec none, k1, bnd_s, gd_t (by omega), if_neg (by omega), b1, bnd_s]
      rcases T_sgn (F := F) hF hL hb0 b3 b4 with ⟨t1, t2, l1, l2, l3, l4, l5⟩ | ⟨t1, tmE, v, v0, v1, l1, l2, l3, l4, l5, l6⟩
      · refine PO_fail (s1 := t1) (s2 := t2) ?_ ?_ l3 (p1.tr l4) (q1.tr l5)
        · rw [ec2 none, l1, bnd_s, gd_t (by decide), if_pos rfl]
        · rw [em1, hK]
          show bnd (f_M_next F s2) _ = _
          rw [b2, bnd_s, l2 0 (Or.inl rfl), bnd_s, gd_t (by decide), if_pos rfl]
      · have l60 := l6 0 (Or.inl rfl)
        rw [if_neg (fun z => absurd z.1 (by decide))] at l60
        obtain ⟨y1, y2, d1, d2, d3, d4, d5, d6⟩ := ADVp (σ1 := t1) (σ2 := sF tmE 17 v) hF hL hb0 (TPd_c l3 rfl rfl rfl (fun _ => rfl) rfl rfl rfl rfl (fun _ => rfl))
        have d17 : gF y2 17 = v := by rw [d6.f (by omega), gF_eq]
        have p2 : FPd σ1 y1 := (p1.tr l4.P).tr d5.P
        have q2 : FQd σ2 y2 := ((q1.tr l5.Q).sF rfl).tr d6.Q
        have ec3 : ∀ X : Option (Int × St), f_Reader_readBearing_compass1 F σ1 = bnd (f_Reader_isSigned F y1) fun r12 σ13 => gd (rng r12) (if r12 = 0 then some (0, σ13) else gd (rng v) (if v = 0 then gd (rng (gF σ13 200)) (if (gF σ13 200) = 0 then bnd (f_Reader_blame F σ13 2) fun r22 σ23 => gd (isb r22) (some (r22, σ23)) else bnd (f_Compass_addBearing_compass1 F σ13 o v (gF σ13 200)) fun r18 σ19 => bnd (f_Reader_advance F σ19) fun r20 σ21 => some (1, σ21)) else bnd (f_Compass_addBearing_compass1 F σ13 o v (gF σ13 200)) fun r14 σ15 => bnd (f_Reader_advance F σ15) fun r16 σ17 => some (1, σ17))) := fun _ => by
          rw [ec2 none, l1, bnd_s, gd_t (by decide), if_neg (by decide), bv_s, d1, bnd_s, l2]
        obtain ⟨X, hX, hX1, hX2⟩ : ∃ X : Int, X = (if v = 0 then 1 else 0) ∧ (X = 0 ∨ X = 1) ∧ (X = 1 ↔ v = 0) := ⟨_, rfl, by split <;> omega, by split <;> omega⟩
        have em3 : ∀ Y : Option (Int × St), f_M_readBearing F σ2 = bnd (f_M_takesSigned F y2 X) fun r19 σ20 => gd (rng r19) (if r19 = 0 then some (0, σ20) else gd (inb (58 + (3 * (k : Int))) 82) (bs (sA σ20 3 (Int.toNat (58 + (3 * (k : Int)))) o) fun σ21 => gd (inb ((58 + (3 * (k : Int))) + 1) 82) (bs (sA σ21 3 (Int.toNat ((58 + (3 * (k : Int))) + 1)) v) fun σ22 => gd (inb ((58 + (3 * (k : Int))) + 2) 82) (bs (sA σ22 3 (Int.toNat ((58 + (3 * (k : Int))) + 2)) (gF σ22 17)) fun σ23 => gd (inb 4 82) (gd (inb 4 82) (bs (sA σ23 3 (Int.toNat 4) ((gA σ23 3 (Int.toNat 4)) + 1)) fun σ24 => some (1, σ24))))))) := fun _ => by
          rw [em1, hK]
          show bnd (f_M_next F s2) _ = _
          rw [b2, bnd_s, l60, d2, bnd_s, bnd_s, gd_t (by decide), if_neg (by decide), d17, bv_s, gd_t (by omega)]
          by_cases z : v = 0
          · rw [if_pos z, hX, if_pos z]
          · rw [if_neg z, hX, if_neg z]
        rcases T_sgn (F := F) hF hL hb0 d3 d4 with ⟨x1, x2, n1, n2, n3, n4, n5⟩ | ⟨x1, xm, y, y0, y9, n1, n2, n3, n4, n5, n6⟩
        · refine PO_fail (s1 := x1) (s2 := x2) ?_ ?_ n3 (p2.tr n4) (q2.tr n5)
          · rw [ec3 none, n1, bnd_s, gd_t (by decide), if_pos rfl]
          · rw [em3 none, n2 X hX1, bnd_s, gd_t (by decide), if_pos rfl]
        · have n60 := n6 X hX1
          by_cases both : v = 0 ∧ y = 0
          · rw [if_pos ⟨hX2.mpr both.1, both.2⟩] at n60
            refine PO_fail ?_ ?_ (FTd_of n3.2.1 2) ((p2.tr n4.P).sF rfl |>.sF rfl) ((q2.tr n5.Q).sF rfl |>.sF rfl)
            · rw [ec3 none, n1, bnd_s, gd_t (by decide), if_neg (by decide), gd_t (by omega), if_pos both.1, n2, gd_t (by omega), if_pos both.2, blame_e, bnd_s, gd_t (by decide)]
            · rw [em3 none, n60, bnd_s, gd_t (by decide), if_pos rfl]
          · rw [if_neg (fun z => both ⟨hX2.mp z.1, z.2⟩)] at n60
            have xF : ∀ q, q < 196 ∨ 200 < q → gF x1 q = gF σ1 q := fun q hq => by
              rw [n4.f hq, d5.f hq, l4.f hq, b5.f hq, a5.f hq]
            have xA : ∀ a i, gA x1 a i = gA σ1 a i := fun a i => by
              rw [n4.2, d5.2, l4.2, b5.2, a5.2]
            have xu : gF x1 2051 = (k : Nat) := by rw [xF _ (by omega), c4, ek]
            have addB : f_Compass_addBearing_compass1 F x1 o v y = some (0, sF (sA (sA (sA x1 44 k o) 48 k v) 52 k y) 2051 (((k + 1 : Nat)) : Int)) := by
              unfold f_Compass_addBearing_compass1
              have g1 : gF (sA x1 44 k o) 2051 = (k : Nat) := xu
              have g2 : gF (sA (sA x1 44 k o) 48 k v) 2051 = (k : Nat) := xu
              have g3 : gF (sA (sA (sA x1 44 k o) 48 k v) 52 k y) 2051 = (k : Nat) := xu
              rw [xu, gd_t (by omega), if_neg (by omega), gd_t (by omega), bs_s, Int.toNat_natCast, g1, gd_t (by omega), bs_s, Int.toNat_natCast, g2, gd_t (by omega), bs_s, Int.toNat_natCast, g3, bs_s]; rfl
            obtain ⟨f1, f2, r1, r2, r3, r4, r5, r6⟩ := ADVp (σ1 := sF (sA (sA (sA x1 44 k o) 48 k v) 52 k y) 2051 (((k + 1 : Nat)) : Int)) (σ2 := sF xm 17 y) hF hL hb0 (TPd_c n3 rfl rfl rfl (fun i => by rw [gA_sF, gA_sA, if_neg (by omega), gA_sA, if_neg (by omega), gA_sA, if_neg (by omega)]) rfl rfl rfl rfl (fun _ => rfl))
            have r17 : gF f2 17 = y := by rw [r6.f (by omega), gF_eq]
            have f3 : ∀ a i, gA f2 a i = gA σ2 a i := fun a i => by
              rw [r6.2]
              show gA xm a i = _
              rw [n5.2, d6.2]
              show gA tmE a i = _
              rw [l5.2, b6.2, a6.2]
            have f19 : gF f2 19 = gF σ2 19 := by
              rw [r6.f (by omega), gF_sF, if_neg (by omega), n5.f (by omega), d6.f (by omega), gF_sF, if_neg (by omega), l5.f (by omega), b6.f (by omega), a6.f (by omega)]
            refine ⟨1, f1, sA (sA (sA (sA f2 3 (58 + 3 * k) o) 3 (59 + 3 * k) v) 3 (60 + 3 * k) y) 3 4 (((k + 1 : Nat)) : Int), ?_, ?_, (((((p2.tr n4.P).sA rfl).sA rfl).sA rfl).sF rfl).tr r5.P, ((((((q2.tr n5.Q).sF rfl).tr r6.Q).sA (Or.inl rfl)).sA (Or.inl rfl)).sA (Or.inl rfl)).sA (Or.inl rfl), Or.inl ⟨rfl, TBt_c r3 rfl (fun _ => rfl) rfl rfl (fun i => by rw [gA_sA, if_neg (by omega), gA_sA, if_neg (by omega), gA_sA, if_neg (by omega), gA_sA, if_neg (by omega)]), TK_c r4 (fun _ _ _ => rfl) (fun _ _ => rfl), ?_, ?_, ?_, ?_⟩⟩
            · rw [ec3 none, n1, bnd_s, gd_t (by decide), if_neg (by decide), gd_t (by omega), n2]
              by_cases z : v = 0
              · rw [if_pos z, gd_t (by omega), if_neg (fun w => both ⟨z, w⟩), addB, bnd_s, r1, bnd_s]
              · rw [if_neg z, addB, bnd_s, r1, bnd_s]
            · rw [em3 none, n60, r2, bnd_s, bnd_s, gd_t (by decide), if_neg (by decide), gd_t (by omega), bs_s, gd_t (by omega), bs_s, gd_t (by omega), bs_s, gd_t (by decide), gd_t (by decide), bs_s, show Int.toNat (58 + 3 * (k : Int)) = 58 + 3 * k by omega, show Int.toNat (58 + 3 * (k : Int) + 1) = 59 + 3 * k by omega, show Int.toNat (58 + 3 * (k : Int) + 2) = 60 + 3 * k by omega, show gF (sA (sA f2 3 (58 + 3 * k) o) 3 (59 + 3 * k) v) 17 = y from r17, show Int.toNat 4 = 4 from rfl, gA_sA, if_neg (by omega), gA_sA, if_neg (by omega), gA_sA, if_neg (by omega), f3, ek]; rfl
            · refine DRd_bear hD (k := k) (o := o) (x := v) (y := y) ek (by omega) ⟨k3, k4⟩ ⟨v0, v1⟩ ⟨y0, y9⟩ (fun q hq => ?_) ?_ (fun a h1 h2 h3 h4 h5 i => ?_) (fun i => ?_) (fun i => ?_) (fun i => ?_) (fun i h1 h2 h3 h4 => ?_) ?_ ?_ ?_ ?_ (fun i => ?_) ?_
              · rw [r5.f (by omega), gF_sF, if_neg (by omega)]; exact xF q (by omega)
              · rw [r5.f (by omega), gF_eq]
              · rw [r5.2, gA_sF, gA_sA, if_neg (fun z => h5 z.1), gA_sA, if_neg (fun z => h4 z.1), gA_sA, if_neg (fun z => h3 z.1), xA]
              · rw [r5.2, gA_sF, gA_sA, if_neg (by omega), gA_sA, if_neg (by omega), gA_sA, xA]
                by_cases z : i = k
                · rw [if_pos ⟨rfl, z⟩, if_pos z]
                · rw [if_neg (fun y => z y.2), if_neg z]
              · rw [r5.2, gA_sF, gA_sA, if_neg (by omega), gA_sA]
                by_cases z : i = k
                · rw [if_pos ⟨rfl, z⟩, if_pos z]
                · rw [if_neg (fun y => z y.2), if_neg z, gA_sA, if_neg (by omega), xA]
              · rw [r5.2, gA_sF, gA_sA]
                by_cases z : i = k
                · rw [if_pos ⟨rfl, z⟩, if_pos z]
                · rw [if_neg (fun y => z y.2), if_neg z, gA_sA, if_neg (by omega), gA_sA, if_neg (by omega), xA]
              · rw [gA_sA, if_neg (fun z => h1 z.2), gA_sA, if_neg (fun z => h4 z.2), gA_sA, if_neg (fun z => h3 z.2), gA_sA, if_neg (fun z => h2 z.2), f3]
              · rw [gA_sA, if_pos ⟨rfl, rfl⟩]
              · rw [gA_sA, if_neg (by omega), gA_sA, if_neg (by omega), gA_sA, if_neg (by omega), gA_sA, if_pos ⟨rfl, rfl⟩]
              · rw [gA_sA, if_neg (by omega), gA_sA, if_neg (by omega), gA_sA, if_pos ⟨rfl, rfl⟩]
              · rw [gA_sA, if_neg (by omega), gA_sA, if_pos ⟨rfl, rfl⟩]
              · rw [gA_sA, if_neg (by omega), gA_sA, if_neg (by omega), gA_sA, if_neg (by omega), gA_sA, if_neg (by omega), f3]
              · exact f19
            · have g : ∀ q, q = 202 ∨ (2048 ≤ q ∧ q ≤ 5126 ∧ q ≠ 2051) → gF f1 q = gF σ1 q := fun q hq => by rw [r5.f (by omega), gF_sF, if_neg (by omega)]; exact xF q (by omega)
              have g2 : gF f1 2051 = ((k + 1 : Nat) : Int) := by rw [r5.f (by omega), gF_eq]
              unfold CNc
              rw [g 5123 (by omega), g 5126 (by omega), g 2048 (by omega), g2, g 202 (by omega), c4, ek]; omega
            · rw [r5.f (by omega), gF_sF, if_neg (by omega)]; exact xF 193 (by omega)
            · show gF f2 14 = _
              rw [r6.f (by omega), gF_sF, if_neg (by omega), n5.f (by omega), d6.f (by omega), gF_sF, if_neg (by omega), l5.f (by omega), b6.f (by omega), a6.f (by omega)]
end
