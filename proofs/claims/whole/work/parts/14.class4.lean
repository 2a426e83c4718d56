def b_W_mend_112 (F : Nat) (self : St → Int → Int → Int → Int → Int → Option (Int × St)) (σ : St) (x1 x2 x3 x5 x6 : Int) : Option (Int × St) := gd (rng x6 ∧ rng x2) (if x2 ≤ x6 then some (1, σ) else gd (inb x6 10) (gd (inb x6 10) (bnd (f_Lattice_waveBack_lattice0 F σ x1 (gA σ 55 (Int.toNat x6))) fun r14 σ15 => bnd (f_W_product F σ15 (gA σ 94 (Int.toNat x6)) r14 x3) fun r16 σ17 => bnd (f_W_product F σ17 r16 x5 x3) fun r18 σ19 => gd (inb x6 10) (bs (sA σ19 59 (Int.toNat x6) r18) fun σ20 => bv (x6 + 1) fun x6_21 => self σ20 x1 x2 x3 x5 x6_21))))
def l_W_mend_112 (F : Nat) : Nat → St → Int → Int → Int → Int → Int → Option (Int × St)
  | 0 => fun _ _ _ _ _ _ => none
  | n + 1 => fun σ x1 x2 x3 x5 x6 => b_W_mend_112 F (l_W_mend_112 F n) σ x1 x2 x3 x5 x6
def f_W_mend (F : Nat) (σ : St) (x1 : Int) : Option (Int × St) := bnd (f_W_takeReadings F σ) fun r1 σ2 => gd (rng r1 ∧ rng (gF σ2 5059)) (if r1 = (gF σ2 5059) then gd (rng r1) (if r1 = 0 then some (0, σ2) else bnd (f_Lattice_has_lattice0 F σ2 x1) fun r3 σ4 => gd (rng r3) (if r3 = 0 then some (0, σ4) else gd (inb 0 10) (gd (rng (gA σ4 94 (Int.toNat 0))) (if (gA σ4 94 (Int.toNat 0)) = 0 then some (0, σ4) else bv (gF σ4 1473) fun x3_5 => gd (inb 0 10) (gd (inb 0 10) (bnd (f_Lattice_waveBack_lattice0 F σ4 x1 (gA σ4 55 (Int.toNat 0))) fun r6 σ7 => bnd (f_W_product F σ7 (gA σ4 94 (Int.toNat 0)) r6 x3_5) fun r8 σ9 => gd (inb 0 10) (bnd (f_W_inverse F σ9 r8 x3_5) fun r10 σ11 => bnd (f_W_product F σ11 (gA σ9 59 (Int.toNat 0)) r10 x3_5) fun r12 σ13 => l_W_mend_112 F F σ13 x1 r1 x3_5 r12 0))))))) else some (0, σ2))
set_option maxRecDepth 100000 in
set_option maxHeartbeats 4000000 in
theorem cb_W_mend_112 {K : KX} {x : Bool} (F : Nat) (self : St → Int → Int → Int → Int → Int → Option (Int × St)) (hself : ∀ σ x1 x2 x3 x5 x6, WA 3 0 1 cX10_mend RX10 8 (some .boolean) (LYC x false false) (LYC x false false) K 112 [some (.ref 0), some (vi x1), some (vi x2), some (vi x3), none, some (vi x5), some (vi x6), none] [] σ (self σ x1 x2 x3 x5 x6)) (σ : St) (x1 x2 x3 x5 x6 : Int) : WA 3 0 1 cX10_mend RX10 8 (some .boolean) (LYC x false false) (LYC x false false) K 112 [some (.ref 0), some (vi x1), some (vi x2), some (vi x3), none, some (vi x5), some (vi x6), none] [] σ (b_W_mend_112 F self σ x1 x2 x3 x5 x6) := by
  unfold b_W_mend_112
  refine a_iload dX10_mend_112 rfl ?_
  refine a_iload_n dX10_mend_114 rfl ?_
  refine a_icmp_ge dX10_mend_115 rfl (fun _ => ?_) (fun _ => ?_)
  · refine a_iconst dX10_mend_176 ?_
    exact a_zretc (by decide) dX10_mend_177
  refine a_aload_n dX10_mend_118 rfl ?_
  refine a_getR (c0 := 94) fl_X10_69 lyC_0 rfl dX10_mend_119 (key := 10) rfl ?_
  refine a_iload dX10_mend_122 rfl ?_
  refine a_iald lyC_94 rfl dX10_mend_124 ?_
  refine a_aload_n dX10_mend_125 rfl ?_
  refine a_getR (c0 := 79) fl_X10_26 lyC_0 rfl dX10_mend_126 (key := 2) rfl ?_
  refine a_getR (c0 := 23) fl_X10_153 lyC_79 rfl dX10_mend_129 (key := 5056) rfl ?_
  refine a_iload_n dX10_mend_132 rfl ?_
  refine a_aload_n dX10_mend_133 rfl ?_
  refine a_getR (c0 := 79) fl_X10_26 lyC_0 rfl dX10_mend_134 (key := 2) rfl ?_
  refine a_getR (c0 := 55) fl_X10_128 lyC_79 rfl dX10_mend_137 (key := 5060) rfl ?_
  refine a_iload dX10_mend_140 rfl ?_
  refine a_iald lyC_55 rfl dX10_mend_142 ?_
  refine a_callVi (as := [vi x1, vi (gA σ 55 (Int.toNat x6))]) mf_X10_313 lyC_23 rfl (c_Lattice_waveBack_lattice0 F _ _ _) LYsame.rf dX10_mend_143 rfl rfl rfl rfl rfl rfl (Or.inl rfl) fun r14 σ15 => ?_
  refine a_iload_n dX10_mend_146 rfl ?_
  refine a_callSi (as := [vi (gA σ 94 (Int.toNat x6)), vi r14, vi x3]) mf_X10_257 (c_W_product F _ _ _ _) LYsame.rf dX10_mend_147 rfl rfl rfl rfl rfl rfl (Or.inl rfl) fun r16 σ17 => ?_
  refine a_istore (L' := [some (.ref 0), some (vi x1), some (vi x2), some (vi x3), none, some (vi x5), some (vi x6), some (vi r16)]) dX10_mend_150 rfl rfl rfl rfl ?_
  refine a_aload_n dX10_mend_152 rfl ?_
  refine a_getR (c0 := 79) fl_X10_26 lyC_0 rfl dX10_mend_153 (key := 2) rfl ?_
  refine a_getR (c0 := 59) fl_X10_131 lyC_79 rfl dX10_mend_156 (key := 5061) rfl ?_
  refine a_iload dX10_mend_159 rfl ?_
  refine a_iload dX10_mend_161 rfl ?_
  refine a_iload dX10_mend_163 rfl ?_
  refine a_iload_n dX10_mend_165 rfl ?_
  refine a_callSi (as := [vi r16, vi x5, vi x3]) mf_X10_257 (c_W_product F _ _ _ _) LYsame.rf dX10_mend_166 rfl rfl rfl rfl rfl rfl (Or.inl rfl) fun r18 σ19 => ?_
  refine a_iast lyC_59 rfl dX10_mend_169 fun σ20 => ?_
  refine a_bv fun x6_21 ex6_21 => ?_
  refine a_iinc (y := x6_21) (L' := [some (.ref 0), some (vi x1), some (vi x2), some (vi x3), none, some (vi x5), some (vi x6_21), some (vi r16)]) dX10_mend_170 rfl ex6_21 rfl rfl rfl ?_
  refine a_goto dX10_mend_173 rfl ?_
  exact a_L (lsub_get (A := [some (.ref 0), some (vi x1), some (vi x2), some (vi x3), none, some (vi x5), some (vi x6_21), none]) ⟨rfl, ⟨rfl, ⟨rfl, ⟨rfl, ⟨rfl, ⟨rfl, trivial⟩⟩⟩⟩⟩⟩) (hself _ _ _ _ _ _)
set_option maxRecDepth 100000 in
set_option maxHeartbeats 4000000 in
theorem cl_W_mend_112 {K : KX} {x : Bool} (F : Nat) : ∀ (n : Nat) (σ : St) (x1 x2 x3 x5 x6 : Int), WA 3 0 1 cX10_mend RX10 8 (some .boolean) (LYC x false false) (LYC x false false) K 112 [some (.ref 0), some (vi x1), some (vi x2), some (vi x3), none, some (vi x5), some (vi x6), none] [] σ (l_W_mend_112 F n σ x1 x2 x3 x5 x6)
  | 0, _, _, _, _, _, _ => a_none
  | n + 1, σ, x1, x2, x3, x5, x6 => cb_W_mend_112 F _ (cl_W_mend_112 F n) σ x1 x2 x3 x5 x6
set_option maxRecDepth 100000 in
set_option maxHeartbeats 4000000 in
theorem c_W_mend {x : Bool} (F : Nat) (σ : St) (x1 : Int) : Ct 3 0 1 yX10_mend cX10_mend 8 (some .boolean) (LYC x false false) (LYC x false false) [.ref 0, vi x1] σ (f_W_mend F σ x1) := by
  unfold f_W_mend
  refine Ct_of (d := 3) (kp := 0) (kd := 1) (own := RX10) (nL := 8) (ret := (some .boolean)) (LY := (LYC x false false)) (LYe := (LYC x false false)) (L := [some (.ref 0), some (vi x1), none, none, none, none, none, none]) rfl (by decide +kernel) rfl rfl mf_L_173.2.2.2.1 rfl fun K => ?_
  refine a_aload_n dX10_mend_0 rfl ?_
  refine a_callVi (as := []) mf_X10_244 lyC_0 rfl (c_W_takeReadings F _) LYsame.rf dX10_mend_1 rfl rfl rfl rfl rfl rfl (Or.inl rfl) fun r1 σ2 => ?_
  refine a_istore_n (L' := [some (.ref 0), some (vi x1), some (vi r1), none, none, none, none, none]) dX10_mend_4 rfl rfl rfl rfl ?_
  refine a_iload_n dX10_mend_5 rfl ?_
  refine a_aload_n dX10_mend_6 rfl ?_
  refine a_getR (c0 := 79) fl_X10_26 lyC_0 rfl dX10_mend_7 (key := 2) rfl ?_
  refine a_getI fl_X10_172 lyC_79 rfl dX10_mend_10 (key := 5059) rfl ?_
  refine a_icmp_ne dX10_mend_13 rfl (fun _ => ?_) (fun _ => ?_)
  · refine a_iconst dX10_mend_43 ?_
    exact a_zretc (by decide) dX10_mend_44
  refine a_iload_n dX10_mend_16 rfl ?_
  refine a_if_eq dX10_mend_17 rfl (fun _ => ?_) (fun _ => ?_)
  · refine a_iconst dX10_mend_43 ?_
    exact a_zretc (by decide) dX10_mend_44
  refine a_aload_n dX10_mend_20 rfl ?_
  refine a_getR (c0 := 79) fl_X10_26 lyC_0 rfl dX10_mend_21 (key := 2) rfl ?_
  refine a_getR (c0 := 23) fl_X10_153 lyC_79 rfl dX10_mend_24 (key := 5056) rfl ?_
  refine a_iload_n dX10_mend_27 rfl ?_
  refine a_callVi (as := [vi x1]) mf_X10_157 lyC_23 rfl (c_Lattice_has_lattice0 F _ _) LYsame.rf dX10_mend_28 rfl rfl rfl rfl rfl rfl (Or.inl rfl) fun r3 σ4 => ?_
  refine a_if_eq dX10_mend_31 rfl (fun _ => ?_) (fun _ => ?_)
  · refine a_iconst dX10_mend_43 ?_
    exact a_zretc (by decide) dX10_mend_44
  refine a_aload_n dX10_mend_34 rfl ?_
  refine a_getR (c0 := 94) fl_X10_69 lyC_0 rfl dX10_mend_35 (key := 10) rfl ?_
  refine a_iconst dX10_mend_38 ?_
  refine a_iald lyC_94 rfl dX10_mend_39 ?_
  refine a_if_ne dX10_mend_40 rfl (fun _ => ?_) (fun _ => ?_)
  · refine a_aload_n dX10_mend_45 rfl ?_
    refine a_getR (c0 := 79) fl_X10_26 lyC_0 rfl dX10_mend_46 (key := 2) rfl ?_
    refine a_getR (c0 := 23) fl_X10_153 lyC_79 rfl dX10_mend_49 (key := 5056) rfl ?_
    refine a_getI fl_X10_178 lyC_23 rfl dX10_mend_52 (key := 1473) rfl ?_
    refine a_bv fun x3_5 ex3_5 => ?_
    refine a_istore_n (y := x3_5) (L' := [some (.ref 0), some (vi x1), some (vi r1), some (vi x3_5), none, none, none, none]) dX10_mend_55 ex3_5 rfl rfl rfl ?_
    refine a_aload_n dX10_mend_56 rfl ?_
    refine a_getR (c0 := 94) fl_X10_69 lyC_0 rfl dX10_mend_57 (key := 10) rfl ?_
    refine a_iconst dX10_mend_60 ?_
    refine a_iald lyC_94 rfl dX10_mend_61 ?_
    refine a_aload_n dX10_mend_62 rfl ?_
    refine a_getR (c0 := 79) fl_X10_26 lyC_0 rfl dX10_mend_63 (key := 2) rfl ?_
    refine a_getR (c0 := 23) fl_X10_153 lyC_79 rfl dX10_mend_66 (key := 5056) rfl ?_
    refine a_iload_n dX10_mend_69 rfl ?_
    refine a_aload_n dX10_mend_70 rfl ?_
    refine a_getR (c0 := 79) fl_X10_26 lyC_0 rfl dX10_mend_71 (key := 2) rfl ?_
    refine a_getR (c0 := 55) fl_X10_128 lyC_79 rfl dX10_mend_74 (key := 5060) rfl ?_
    refine a_iconst dX10_mend_77 ?_
    refine a_iald lyC_55 rfl dX10_mend_78 ?_
    refine a_callVi (as := [vi x1, vi (gA σ4 55 (Int.toNat 0))]) mf_X10_313 lyC_23 rfl (c_Lattice_waveBack_lattice0 F _ _ _) LYsame.rf dX10_mend_79 rfl rfl rfl rfl rfl rfl (Or.inl rfl) fun r6 σ7 => ?_
    refine a_iload_n dX10_mend_82 rfl ?_
    refine a_callSi (as := [vi (gA σ4 94 (Int.toNat 0)), vi r6, vi x3_5]) mf_X10_257 (c_W_product F _ _ _ _) LYsame.rf dX10_mend_83 rfl rfl rfl rfl rfl rfl (Or.inl rfl) fun r8 σ9 => ?_
    refine a_istore (L' := [some (.ref 0), some (vi x1), some (vi r1), some (vi x3_5), some (vi r8), none, none, none]) dX10_mend_86 rfl rfl rfl rfl ?_
    refine a_aload_n dX10_mend_88 rfl ?_
    refine a_getR (c0 := 79) fl_X10_26 lyC_0 rfl dX10_mend_89 (key := 2) rfl ?_
    refine a_getR (c0 := 59) fl_X10_131 lyC_79 rfl dX10_mend_92 (key := 5061) rfl ?_
    refine a_iconst dX10_mend_95 ?_
    refine a_iald lyC_59 rfl dX10_mend_96 ?_
    refine a_iload dX10_mend_97 rfl ?_
    refine a_iload_n dX10_mend_99 rfl ?_
    refine a_callSi (as := [vi r8, vi x3_5]) mf_X10_254 (c_W_inverse F _ _ _) LYsame.rf dX10_mend_100 rfl rfl rfl rfl rfl rfl (Or.inl rfl) fun r10 σ11 => ?_
    refine a_iload_n dX10_mend_103 rfl ?_
    refine a_callSi (as := [vi (gA σ9 59 (Int.toNat 0)), vi r10, vi x3_5]) mf_X10_257 (c_W_product F _ _ _ _) LYsame.rf dX10_mend_104 rfl rfl rfl rfl rfl rfl (Or.inl rfl) fun r12 σ13 => ?_
    refine a_istore (L' := [some (.ref 0), some (vi x1), some (vi r1), some (vi x3_5), some (vi r8), some (vi r12), none, none]) dX10_mend_107 rfl rfl rfl rfl ?_
    refine a_iconst dX10_mend_109 ?_
    refine a_istore (L' := [some (.ref 0), some (vi x1), some (vi r1), some (vi x3_5), some (vi r8), some (vi r12), some (vi 0), none]) dX10_mend_110 rfl rfl rfl rfl ?_
    exact a_L (lsub_get (A := [some (.ref 0), some (vi x1), some (vi r1), some (vi x3_5), none, some (vi r12), some (vi 0), none]) ⟨rfl, ⟨rfl, ⟨rfl, ⟨rfl, ⟨rfl, ⟨rfl, trivial⟩⟩⟩⟩⟩⟩) (cl_W_mend_112 F F _ _ _ _ _ _)
  refine a_iconst dX10_mend_43 ?_
  exact a_zretc (by decide) dX10_mend_44
def f_Compass_hasBearing_compass0 (F : Nat) (σ : St) (x1 : Int) : Option (Int × St) := gd (rng x1) (if x1 < 0 then some (0, σ) else gd (rng x1 ∧ rng (gF σ 1987)) (if (gF σ 1987) ≤ x1 then some (0, σ) else some (1, σ)))
set_option maxRecDepth 100000 in
set_option maxHeartbeats 4000000 in
theorem c_Compass_hasBearing_compass0 {x : Bool} (F : Nat) (σ : St) (x1 : Int) : Ct 1 0 1 yX0_hasBearing cX0_hasBearing 2 (some .boolean) (LYC x false false) (LYC x false false) [.ref 31, vi x1] σ (f_Compass_hasBearing_compass0 F σ x1) := by
  unfold f_Compass_hasBearing_compass0
  refine Ct_of (d := 1) (kp := 0) (kd := 1) (own := RX0) (nL := 2) (ret := (some .boolean)) (LY := (LYC x false false)) (LYe := (LYC x false false)) (L := [some (.ref 31), some (vi x1)]) rfl (by decide +kernel) rfl rfl mf_X0_44.2.2.2.1 rfl fun K => ?_
  refine a_iload_n dX0_hasBearing_0 rfl ?_
  refine a_if_lt dX0_hasBearing_1 rfl (fun _ => ?_) (fun _ => ?_)
  · refine a_iconst dX0_hasBearing_16 ?_
    exact a_zretc (by decide) dX0_hasBearing_17
  refine a_iload_n dX0_hasBearing_4 rfl ?_
  refine a_aload_n dX0_hasBearing_5 rfl ?_
  refine a_getI fl_X0_41 lyC_31 rfl dX0_hasBearing_6 (key := 1987) rfl ?_
  refine a_icmp_ge dX0_hasBearing_9 rfl (fun _ => ?_) (fun _ => ?_)
  · refine a_iconst dX0_hasBearing_16 ?_
    exact a_zretc (by decide) dX0_hasBearing_17
  refine a_iconst dX0_hasBearing_12 ?_
  refine a_goto dX0_hasBearing_13 rfl ?_
  exact a_zretc (by decide) dX0_hasBearing_17
def f_Compass_meet_compass0 (F : Nat) (σ : St) (x1 x2 : Int) : Option (Int × St) := bnd (f_Compass_hasBearing_compass0 F σ x1) fun r1 σ2 => gd (rng r1) (if r1 = 0 then some (0, σ2) else bnd (f_Compass_hasBearing_compass0 F σ2 x2) fun r3 σ4 => gd (rng r3) (if r3 = 0 then some (0, σ4) else gd (inb x1 8) (gd (inb x2 8) (gd (rng (gA σ4 43 (Int.toNat x1)) ∧ rng (gA σ4 43 (Int.toNat x2))) (if (gA σ4 43 (Int.toNat x1)) = (gA σ4 43 (Int.toNat x2)) then some (0, σ4) else gd (inb x1 8) (gd (rng (gA σ4 47 (Int.toNat x1))) (gd (inb x2 8) (gd (rng (gA σ4 51 (Int.toNat x2))) (bv ((gA σ4 47 (Int.toNat x1)) * (gA σ4 51 (Int.toNat x2))) fun t5 => gd (inb x1 8) (gd (rng (gA σ4 51 (Int.toNat x1))) (gd (inb x2 8) (gd (rng (gA σ4 47 (Int.toNat x2))) (bv ((gA σ4 51 (Int.toNat x1)) * (gA σ4 47 (Int.toNat x2))) fun t6 => bv (t5 - t6) fun x3_7 => gd (inb x2 8) (gd (inb (gA σ4 43 (Int.toNat x2)) 4) (bv (gA σ4 35 (Int.toNat (gA σ4 43 (Int.toNat x2)))) fun t8 => gd (inb x1 8) (gd (inb (gA σ4 43 (Int.toNat x1)) 4) (bv (gA σ4 35 (Int.toNat (gA σ4 43 (Int.toNat x1)))) fun t9 => gd (rng (t8 - t9)) (bv (t8 - t9) fun x5_10 => gd (inb x2 8) (gd (inb (gA σ4 43 (Int.toNat x2)) 4) (bv (gA σ4 39 (Int.toNat (gA σ4 43 (Int.toNat x2)))) fun t11 => gd (inb x1 8) (gd (inb (gA σ4 43 (Int.toNat x1)) 4) (bv (gA σ4 39 (Int.toNat (gA σ4 43 (Int.toNat x1)))) fun t12 => gd (rng (t11 - t12)) (bv (t11 - t12) fun x7_13 => gd (inb x2 8) (gd (rng (gA σ4 51 (Int.toNat x2))) (bv (x5_10 * (gA σ4 51 (Int.toNat x2))) fun t14 => gd (inb x2 8) (gd (rng (gA σ4 47 (Int.toNat x2))) (bv (x7_13 * (gA σ4 47 (Int.toNat x2))) fun t15 => bv (t14 - t15) fun x9_16 => gd (inb x1 8) (gd (rng (gA σ4 51 (Int.toNat x1))) (bv (x5_10 * (gA σ4 51 (Int.toNat x1))) fun t17 => gd (inb x1 8) (gd (rng (gA σ4 47 (Int.toNat x1))) (bv (x7_13 * (gA σ4 47 (Int.toNat x1))) fun t18 => bv (t17 - t18) fun x11_19 => gd (rng64 x3_7 ∧ rng64 0) (if (0 : Int) ≤ x3_7 then gd (rng64 x3_7 ∧ rng64 0) (if x3_7 = 0 then some (0, σ4) else gd (rng64 x9_16 ∧ rng64 0) (if x9_16 ≤ 0 then some (0, σ4) else gd (rng64 x11_19 ∧ rng64 0) (if (0 : Int) < x11_19 then bs (sF σ4 1993 x3_7) fun σ20 => gd (inb x1 8) (gd (inb (gA σ20 43 (Int.toNat x1)) 4) (bv (gA σ20 35 (Int.toNat (gA σ20 43 (Int.toNat x1)))) fun t21 => gd (rng t21) (gd (inb x1 8) (gd (rng (gA σ20 47 (Int.toNat x1))) (bv (x9_16 * (gA σ20 47 (Int.toNat x1))) fun t22 => bs (sF σ20 1991 ((t21 * x3_7) + t22)) fun σ23 => gd (inb x1 8) (gd (inb (gA σ23 43 (Int.toNat x1)) 4) (bv (gA σ23 39 (Int.toNat (gA σ23 43 (Int.toNat x1)))) fun t24 => gd (rng t24) (gd (inb x1 8) (gd (rng (gA σ23 51 (Int.toNat x1))) (bv (x9_16 * (gA σ23 51 (Int.toNat x1))) fun t25 => bs (sF σ23 1992 ((t24 * x3_7) + t25)) fun σ26 => some (1, σ26))))))))))) else some (0, σ4)))) else bv (-x3_7) fun x3_27 => bv (-x9_16) fun x9_28 => bv (-x11_19) fun x11_29 => gd (rng64 x3_27 ∧ rng64 0) (if x3_27 = 0 then some (0, σ4) else gd (rng64 x9_28 ∧ rng64 0) (if x9_28 ≤ 0 then some (0, σ4) else gd (rng64 x11_29 ∧ rng64 0) (if (0 : Int) < x11_29 then bs (sF σ4 1993 x3_27) fun σ30 => gd (inb x1 8) (gd (inb (gA σ30 43 (Int.toNat x1)) 4) (bv (gA σ30 35 (Int.toNat (gA σ30 43 (Int.toNat x1)))) fun t31 => gd (rng t31) (gd (inb x1 8) (gd (rng (gA σ30 47 (Int.toNat x1))) (bv (x9_28 * (gA σ30 47 (Int.toNat x1))) fun t32 => bs (sF σ30 1991 ((t31 * x3_27) + t32)) fun σ33 => gd (inb x1 8) (gd (inb (gA σ33 43 (Int.toNat x1)) 4) (bv (gA σ33 39 (Int.toNat (gA σ33 43 (Int.toNat x1)))) fun t34 => gd (rng t34) (gd (inb x1 8) (gd (rng (gA σ33 51 (Int.toNat x1))) (bv (x9_28 * (gA σ33 51 (Int.toNat x1))) fun t35 => bs (sF σ33 1992 ((t34 * x3_27) + t35)) fun σ36 => some (1, σ36))))))))))) else some (0, σ4))))))))))))))))))))))))))))))))))))
set_option maxRecDepth 100000 in
set_option maxHeartbeats 4000000 in
theorem c_Compass_meet_compass0 {x : Bool} (F : Nat) (σ : St) (x1 x2 : Int) : Ct 2 0 1 yX0_meet cX0_meet 13 (some .boolean) (LYC x false false) (LYC x false false) [.ref 31, vi x1, vi x2] σ (f_Compass_meet_compass0 F σ x1 x2) := by
  unfold f_Compass_meet_compass0
  refine Ct_of (d := 2) (kp := 0) (kd := 1) (own := RX0) (nL := 13) (ret := (some .boolean)) (LY := (LYC x false false)) (LYe := (LYC x false false)) (L := [some (.ref 31), some (vi x1), some (vi x2), none, none, none, none, none, none, none, none, none, none]) rfl (by decide +kernel) rfl rfl mf_X1_66.2.2.2.1 rfl fun K => ?_
  refine a_aload_n dX0_meet_0 rfl ?_
  refine a_iload_n dX0_meet_1 rfl ?_
  refine a_callVi (as := [vi x1]) mf_X0_44 lyC_31 rfl (c_Compass_hasBearing_compass0 F _ _) LYsame.rf dX0_meet_2 rfl rfl rfl rfl rfl rfl (Or.inl rfl) fun r1 σ2 => ?_
  refine a_if_eq dX0_meet_5 rfl (fun _ => ?_) (fun _ => ?_)
  · refine a_iconst dX0_meet_31 ?_
    exact a_zretc (by decide) dX0_meet_32
  refine a_aload_n dX0_meet_8 rfl ?_
  refine a_iload_n dX0_meet_9 rfl ?_
  refine a_callVi (as := [vi x2]) mf_X0_44 lyC_31 rfl (c_Compass_hasBearing_compass0 F _ _) LYsame.rf dX0_meet_10 rfl rfl rfl rfl rfl rfl (Or.inl rfl) fun r3 σ4 => ?_
  refine a_if_eq dX0_meet_13 rfl (fun _ => ?_) (fun _ => ?_)
  · refine a_iconst dX0_meet_31 ?_
    exact a_zretc (by decide) dX0_meet_32
  refine a_aload_n dX0_meet_16 rfl ?_
  refine a_getR (c0 := 43) fl_X0_18 lyC_31 rfl dX0_meet_17 (key := 1988) rfl ?_
  refine a_iload_n dX0_meet_20 rfl ?_
  refine a_iald lyC_43 rfl dX0_meet_21 ?_
  refine a_aload_n dX0_meet_22 rfl ?_
  refine a_getR (c0 := 43) fl_X0_18 lyC_31 rfl dX0_meet_23 (key := 1988) rfl ?_
  refine a_iload_n dX0_meet_26 rfl ?_
  refine a_iald lyC_43 rfl dX0_meet_27 ?_
  refine a_icmp_ne dX0_meet_28 rfl (fun _ => ?_) (fun _ => ?_)
  · refine a_aload_n dX0_meet_33 rfl ?_
    refine a_getR (c0 := 47) fl_X0_21 lyC_31 rfl dX0_meet_34 (key := 1989) rfl ?_
    refine a_iload_n dX0_meet_37 rfl ?_
    refine a_iald lyC_47 rfl dX0_meet_38 ?_
    refine a_i2l dX0_meet_39 (fun _ => ?_)
    refine a_aload_n dX0_meet_40 rfl ?_
    refine a_getR (c0 := 51) fl_X0_24 lyC_31 rfl dX0_meet_41 (key := 1990) rfl ?_
    refine a_iload_n dX0_meet_44 rfl ?_
    refine a_iald lyC_51 rfl dX0_meet_45 ?_
    refine a_i2l dX0_meet_46 (fun _ => ?_)
    refine a_lmul dX0_meet_47 ?_
    refine a_bvl fun t5 => ?_
    refine a_aload_n dX0_meet_48 rfl ?_
    refine a_getR (c0 := 51) fl_X0_24 lyC_31 rfl dX0_meet_49 (key := 1990) rfl ?_
    refine a_iload_n dX0_meet_52 rfl ?_
    refine a_iald lyC_51 rfl dX0_meet_53 ?_
    refine a_i2l dX0_meet_54 (fun _ => ?_)
    refine a_aload_n dX0_meet_55 rfl ?_
    refine a_getR (c0 := 47) fl_X0_21 lyC_31 rfl dX0_meet_56 (key := 1989) rfl ?_
    refine a_iload_n dX0_meet_59 rfl ?_
    refine a_iald lyC_47 rfl dX0_meet_60 ?_
    refine a_i2l dX0_meet_61 (fun _ => ?_)
    refine a_lmul dX0_meet_62 ?_
    refine a_bvl fun t6 => ?_
    refine a_lsub dX0_meet_63 ?_
    refine a_bv fun x3_7 ex3_7 => ?_
    refine a_lstore_n (y := x3_7) (L' := [some (.ref 31), some (vi x1), some (vi x2), some (vl x3_7), none, none, none, none, none, none, none, none, none]) dX0_meet_64 ex3_7 rfl rfl rfl ?_
    refine a_aload_n dX0_meet_65 rfl ?_
    refine a_getR (c0 := 35) fl_X0_9 lyC_31 rfl dX0_meet_66 (key := 1985) rfl ?_
    refine a_aload_n dX0_meet_69 rfl ?_
    refine a_getR (c0 := 43) fl_X0_18 lyC_31 rfl dX0_meet_70 (key := 1988) rfl ?_
    refine a_iload_n dX0_meet_73 rfl ?_
    refine a_iald lyC_43 rfl dX0_meet_74 ?_
    refine a_iald lyC_35 rfl dX0_meet_75 ?_
    refine a_bvi fun t8 => ?_
    refine a_aload_n dX0_meet_76 rfl ?_
    refine a_getR (c0 := 35) fl_X0_9 lyC_31 rfl dX0_meet_77 (key := 1985) rfl ?_
    refine a_aload_n dX0_meet_80 rfl ?_
    refine a_getR (c0 := 43) fl_X0_18 lyC_31 rfl dX0_meet_81 (key := 1988) rfl ?_
    refine a_iload_n dX0_meet_84 rfl ?_
    refine a_iald lyC_43 rfl dX0_meet_85 ?_
    refine a_iald lyC_35 rfl dX0_meet_86 ?_
    refine a_bvi fun t9 => ?_
    refine a_isub dX0_meet_87 ?_
    refine a_i2l dX0_meet_88 (fun _ => ?_)
    refine a_bv fun x5_10 ex5_10 => ?_
    refine a_lstore (y := x5_10) (L' := [some (.ref 31), some (vi x1), some (vi x2), some (vl x3_7), none, some (vl x5_10), none, none, none, none, none, none, none]) dX0_meet_89 ex5_10 rfl rfl rfl ?_
    refine a_aload_n dX0_meet_91 rfl ?_
    refine a_getR (c0 := 39) fl_X0_15 lyC_31 rfl dX0_meet_92 (key := 1986) rfl ?_
    refine a_aload_n dX0_meet_95 rfl ?_
    refine a_getR (c0 := 43) fl_X0_18 lyC_31 rfl dX0_meet_96 (key := 1988) rfl ?_
    refine a_iload_n dX0_meet_99 rfl ?_
    refine a_iald lyC_43 rfl dX0_meet_100 ?_
    refine a_iald lyC_39 rfl dX0_meet_101 ?_
    refine a_bvi fun t11 => ?_
    refine a_aload_n dX0_meet_102 rfl ?_
    refine a_getR (c0 := 39) fl_X0_15 lyC_31 rfl dX0_meet_103 (key := 1986) rfl ?_
    refine a_aload_n dX0_meet_106 rfl ?_
    refine a_getR (c0 := 43) fl_X0_18 lyC_31 rfl dX0_meet_107 (key := 1988) rfl ?_
    refine a_iload_n dX0_meet_110 rfl ?_
    refine a_iald lyC_43 rfl dX0_meet_111 ?_
    refine a_iald lyC_39 rfl dX0_meet_112 ?_
    refine a_bvi fun t12 => ?_
    refine a_isub dX0_meet_113 ?_
    refine a_i2l dX0_meet_114 (fun _ => ?_)
    refine a_bv fun x7_13 ex7_13 => ?_
    refine a_lstore (y := x7_13) (L' := [some (.ref 31), some (vi x1), some (vi x2), some (vl x3_7), none, some (vl x5_10), none, some (vl x7_13), none, none, none, none, none]) dX0_meet_115 ex7_13 rfl rfl rfl ?_
    refine a_lload dX0_meet_117 rfl ?_
    refine a_aload_n dX0_meet_119 rfl ?_
    refine a_getR (c0 := 51) fl_X0_24 lyC_31 rfl dX0_meet_120 (key := 1990) rfl ?_
    refine a_iload_n dX0_meet_123 rfl ?_
    refine a_iald lyC_51 rfl dX0_meet_124 ?_
    refine a_i2l dX0_meet_125 (fun _ => ?_)
    refine a_lmul dX0_meet_126 ?_
    refine a_bvl fun t14 => ?_
    refine a_lload dX0_meet_127 rfl ?_
    refine a_aload_n dX0_meet_129 rfl ?_
    refine a_getR (c0 := 47) fl_X0_21 lyC_31 rfl dX0_meet_130 (key := 1989) rfl ?_
    refine a_iload_n dX0_meet_133 rfl ?_
    refine a_iald lyC_47 rfl dX0_meet_134 ?_
    refine a_i2l dX0_meet_135 (fun _ => ?_)
    refine a_lmul dX0_meet_136 ?_
    refine a_bvl fun t15 => ?_
    refine a_lsub dX0_meet_137 ?_
    refine a_bv fun x9_16 ex9_16 => ?_
    refine a_lstore (y := x9_16) (L' := [some (.ref 31), some (vi x1), some (vi x2), some (vl x3_7), none, some (vl x5_10), none, some (vl x7_13), none, some (vl x9_16), none, none, none]) dX0_meet_138 ex9_16 rfl rfl rfl ?_
    refine a_lload dX0_meet_140 rfl ?_
    refine a_aload_n dX0_meet_142 rfl ?_
    refine a_getR (c0 := 51) fl_X0_24 lyC_31 rfl dX0_meet_143 (key := 1990) rfl ?_
    refine a_iload_n dX0_meet_146 rfl ?_
    refine a_iald lyC_51 rfl dX0_meet_147 ?_
    refine a_i2l dX0_meet_148 (fun _ => ?_)
    refine a_lmul dX0_meet_149 ?_
    refine a_bvl fun t17 => ?_
    refine a_lload dX0_meet_150 rfl ?_
    refine a_aload_n dX0_meet_152 rfl ?_
    refine a_getR (c0 := 47) fl_X0_21 lyC_31 rfl dX0_meet_153 (key := 1989) rfl ?_
    refine a_iload_n dX0_meet_156 rfl ?_
    refine a_iald lyC_47 rfl dX0_meet_157 ?_
    refine a_i2l dX0_meet_158 (fun _ => ?_)
    refine a_lmul dX0_meet_159 ?_
    refine a_bvl fun t18 => ?_
    refine a_lsub dX0_meet_160 ?_
    refine a_bv fun x11_19 ex11_19 => ?_
    refine a_lstore (y := x11_19) (L' := [some (.ref 31), some (vi x1), some (vi x2), some (vl x3_7), none, some (vl x5_10), none, some (vl x7_13), none, some (vl x9_16), none, some (vl x11_19), none]) dX0_meet_161 ex11_19 rfl rfl rfl ?_
    refine a_lload_n dX0_meet_163 rfl ?_
    refine a_lconst (v := 0) dX0_meet_164 rfl ?_
    refine a_lcmp_ge dX0_meet_165 dX0_meet_166 rfl (fun _ => ?_) (fun _ => ?_)
    · refine a_lload_n dX0_meet_182 rfl ?_
      refine a_lconst (v := 0) dX0_meet_183 rfl ?_
      refine a_lcmp_eq dX0_meet_184 dX0_meet_185 rfl (fun _ => ?_) (fun _ => ?_)
      · refine a_iconst dX0_meet_202 ?_
        exact a_zretc (by decide) dX0_meet_203
      refine a_lload dX0_meet_188 rfl ?_
      refine a_lconst (v := 0) dX0_meet_190 rfl ?_
      refine a_lcmp_le dX0_meet_191 dX0_meet_192 rfl (fun _ => ?_) (fun _ => ?_)
      · refine a_iconst dX0_meet_202 ?_
        exact a_zretc (by decide) dX0_meet_203
      refine a_lload dX0_meet_195 rfl ?_
      refine a_lconst (v := 0) dX0_meet_197 rfl ?_
      refine a_lcmp_gt dX0_meet_198 dX0_meet_199 rfl (fun _ => ?_) (fun _ => ?_)
      · refine a_aload_n dX0_meet_204 rfl ?_
        refine a_lload_n dX0_meet_205 rfl ?_
        refine a_putL fl_X0_27 cf_X0 rfl rfl lyC_31 rfl dX0_meet_206 (key := 1993) rfl fun σ20 => ?_
        refine a_aload_n dX0_meet_209 rfl ?_
        refine a_aload_n dX0_meet_210 rfl ?_
        refine a_getR (c0 := 35) fl_X0_9 lyC_31 rfl dX0_meet_211 (key := 1985) rfl ?_
        refine a_aload_n dX0_meet_214 rfl ?_
        refine a_getR (c0 := 43) fl_X0_18 lyC_31 rfl dX0_meet_215 (key := 1988) rfl ?_
        refine a_iload_n dX0_meet_218 rfl ?_
        refine a_iald lyC_43 rfl dX0_meet_219 ?_
        refine a_iald lyC_35 rfl dX0_meet_220 ?_
        refine a_bvi fun t21 => ?_
        refine a_i2l dX0_meet_221 (fun _ => ?_)
        refine a_lload_n dX0_meet_222 rfl ?_
        refine a_lmul dX0_meet_223 ?_
        refine a_lload dX0_meet_224 rfl ?_
        refine a_aload_n dX0_meet_226 rfl ?_
        refine a_getR (c0 := 47) fl_X0_21 lyC_31 rfl dX0_meet_227 (key := 1989) rfl ?_
        refine a_iload_n dX0_meet_230 rfl ?_
        refine a_iald lyC_47 rfl dX0_meet_231 ?_
        refine a_i2l dX0_meet_232 (fun _ => ?_)
        refine a_lmul dX0_meet_233 ?_
        refine a_bvl fun t22 => ?_
        refine a_ladd dX0_meet_234 ?_
        refine a_putL fl_X0_48 cf_X0 rfl rfl lyC_31 rfl dX0_meet_235 (key := 1991) rfl fun σ23 => ?_
        refine a_aload_n dX0_meet_238 rfl ?_
        refine a_aload_n dX0_meet_239 rfl ?_
        refine a_getR (c0 := 39) fl_X0_15 lyC_31 rfl dX0_meet_240 (key := 1986) rfl ?_
        refine a_aload_n dX0_meet_243 rfl ?_
        refine a_getR (c0 := 43) fl_X0_18 lyC_31 rfl dX0_meet_244 (key := 1988) rfl ?_
        refine a_iload_n dX0_meet_247 rfl ?_
        refine a_iald lyC_43 rfl dX0_meet_248 ?_
        refine a_iald lyC_39 rfl dX0_meet_249 ?_
        refine a_bvi fun t24 => ?_
        refine a_i2l dX0_meet_250 (fun _ => ?_)
        refine a_lload_n dX0_meet_251 rfl ?_
        refine a_lmul dX0_meet_252 ?_
        refine a_lload dX0_meet_253 rfl ?_
        refine a_aload_n dX0_meet_255 rfl ?_
        refine a_getR (c0 := 51) fl_X0_24 lyC_31 rfl dX0_meet_256 (key := 1990) rfl ?_
        refine a_iload_n dX0_meet_259 rfl ?_
        refine a_iald lyC_51 rfl dX0_meet_260 ?_
        refine a_i2l dX0_meet_261 (fun _ => ?_)
        refine a_lmul dX0_meet_262 ?_
        refine a_bvl fun t25 => ?_
        refine a_ladd dX0_meet_263 ?_
        refine a_putL fl_X0_51 cf_X0 rfl rfl lyC_31 rfl dX0_meet_264 (key := 1992) rfl fun σ26 => ?_
        refine a_iconst dX0_meet_267 ?_
        exact a_zretc (by decide) dX0_meet_268
      refine a_iconst dX0_meet_202 ?_
      exact a_zretc (by decide) dX0_meet_203
    refine a_lload_n dX0_meet_169 rfl ?_
    refine a_lneg dX0_meet_170 ?_
    refine a_bv fun x3_27 ex3_27 => ?_
    refine a_lstore_n (y := x3_27) (L' := [some (.ref 31), some (vi x1), some (vi x2), some (vl x3_27), none, some (vl x5_10), none, some (vl x7_13), none, some (vl x9_16), none, some (vl x11_19), none]) dX0_meet_171 ex3_27 rfl rfl rfl ?_
    refine a_lload dX0_meet_172 rfl ?_
    refine a_lneg dX0_meet_174 ?_
    refine a_bv fun x9_28 ex9_28 => ?_
    refine a_lstore (y := x9_28) (L' := [some (.ref 31), some (vi x1), some (vi x2), some (vl x3_27), none, some (vl x5_10), none, some (vl x7_13), none, some (vl x9_28), none, some (vl x11_19), none]) dX0_meet_175 ex9_28 rfl rfl rfl ?_
    refine a_lload dX0_meet_177 rfl ?_
    refine a_lneg dX0_meet_179 ?_
    refine a_bv fun x11_29 ex11_29 => ?_
    refine a_lstore (y := x11_29) (L' := [some (.ref 31), some (vi x1), some (vi x2), some (vl x3_27), none, some (vl x5_10), none, some (vl x7_13), none, some (vl x9_28), none, some (vl x11_29), none]) dX0_meet_180 ex11_29 rfl rfl rfl ?_
    refine a_lload_n dX0_meet_182 rfl ?_
    refine a_lconst (v := 0) dX0_meet_183 rfl ?_
    refine a_lcmp_eq dX0_meet_184 dX0_meet_185 rfl (fun _ => ?_) (fun _ => ?_)
    · refine a_iconst dX0_meet_202 ?_
      exact a_zretc (by decide) dX0_meet_203
    refine a_lload dX0_meet_188 rfl ?_
    refine a_lconst (v := 0) dX0_meet_190 rfl ?_
    refine a_lcmp_le dX0_meet_191 dX0_meet_192 rfl (fun _ => ?_) (fun _ => ?_)
    · refine a_iconst dX0_meet_202 ?_
      exact a_zretc (by decide) dX0_meet_203
    refine a_lload dX0_meet_195 rfl ?_
    refine a_lconst (v := 0) dX0_meet_197 rfl ?_
    refine a_lcmp_gt dX0_meet_198 dX0_meet_199 rfl (fun _ => ?_) (fun _ => ?_)
    · refine a_aload_n dX0_meet_204 rfl ?_
      refine a_lload_n dX0_meet_205 rfl ?_
      refine a_putL fl_X0_27 cf_X0 rfl rfl lyC_31 rfl dX0_meet_206 (key := 1993) rfl fun σ30 => ?_
      refine a_aload_n dX0_meet_209 rfl ?_
      refine a_aload_n dX0_meet_210 rfl ?_
      refine a_getR (c0 := 35) fl_X0_9 lyC_31 rfl dX0_meet_211 (key := 1985) rfl ?_
      refine a_aload_n dX0_meet_214 rfl ?_
      refine a_getR (c0 := 43) fl_X0_18 lyC_31 rfl dX0_meet_215 (key := 1988) rfl ?_
      refine a_iload_n dX0_meet_218 rfl ?_
      refine a_iald lyC_43 rfl dX0_meet_219 ?_
      refine a_iald lyC_35 rfl dX0_meet_220 ?_
      refine a_bvi fun t31 => ?_
      refine a_i2l dX0_meet_221 (fun _ => ?_)
      refine a_lload_n dX0_meet_222 rfl ?_
      refine a_lmul dX0_meet_223 ?_
      refine a_lload dX0_meet_224 rfl ?_
      refine a_aload_n dX0_meet_226 rfl ?_
      refine a_getR (c0 := 47) fl_X0_21 lyC_31 rfl dX0_meet_227 (key := 1989) rfl ?_
      refine a_iload_n dX0_meet_230 rfl ?_
      refine a_iald lyC_47 rfl dX0_meet_231 ?_
      refine a_i2l dX0_meet_232 (fun _ => ?_)
      refine a_lmul dX0_meet_233 ?_
      refine a_bvl fun t32 => ?_
      refine a_ladd dX0_meet_234 ?_
      refine a_putL fl_X0_48 cf_X0 rfl rfl lyC_31 rfl dX0_meet_235 (key := 1991) rfl fun σ33 => ?_
      refine a_aload_n dX0_meet_238 rfl ?_
      refine a_aload_n dX0_meet_239 rfl ?_
      refine a_getR (c0 := 39) fl_X0_15 lyC_31 rfl dX0_meet_240 (key := 1986) rfl ?_
      refine a_aload_n dX0_meet_243 rfl ?_
      refine a_getR (c0 := 43) fl_X0_18 lyC_31 rfl dX0_meet_244 (key := 1988) rfl ?_
      refine a_iload_n dX0_meet_247 rfl ?_
      refine a_iald lyC_43 rfl dX0_meet_248 ?_
      refine a_iald lyC_39 rfl dX0_meet_249 ?_
      refine a_bvi fun t34 => ?_
      refine a_i2l dX0_meet_250 (fun _ => ?_)
      refine a_lload_n dX0_meet_251 rfl ?_
      refine a_lmul dX0_meet_252 ?_
      refine a_lload dX0_meet_253 rfl ?_
      refine a_aload_n dX0_meet_255 rfl ?_
      refine a_getR (c0 := 51) fl_X0_24 lyC_31 rfl dX0_meet_256 (key := 1990) rfl ?_
      refine a_iload_n dX0_meet_259 rfl ?_
      refine a_iald lyC_51 rfl dX0_meet_260 ?_
      refine a_i2l dX0_meet_261 (fun _ => ?_)
      refine a_lmul dX0_meet_262 ?_
      refine a_bvl fun t35 => ?_
      refine a_ladd dX0_meet_263 ?_
      refine a_putL fl_X0_51 cf_X0 rfl rfl lyC_31 rfl dX0_meet_264 (key := 1992) rfl fun σ36 => ?_
      refine a_iconst dX0_meet_267 ?_
      exact a_zretc (by decide) dX0_meet_268
    refine a_iconst dX0_meet_202 ?_
    exact a_zretc (by decide) dX0_meet_203
  refine a_iconst dX0_meet_31 ?_
  exact a_zretc (by decide) dX0_meet_32
def f_W_cross (F : Nat) (σ : St) (x1 x2 x3 : Int) : Option (Int × St) := gd (rng x3) (if x3 < 0 then some (THR, σ) else gd (rng x3 ∧ rng 3) (if (3 : Int) < x3 then some (THR, σ) else bnd (f_Compass_meet_compass0 F σ x1 x2) fun r1 σ2 => gd (rng r1) (if r1 = 0 then some (THR, σ2) else gd (rng x3 ∧ rng 2) (if (2 : Int) ≤ x3 then bv (gF σ2 1992) fun x4_3 => bnd (f_W_commonMeasure F σ2 x4_3 (gF σ2 1993)) fun r4 σ5 => gd (rng (iandI x3 1)) (if (iandI x3 1) = 0 then gd (rng64 x4_3 ∧ rng64 r4 ∧ r4 ≠ (0 : Int)) (gd ((Int.tdiv x4_3 r4) ≠ THR) (some ((Int.tdiv x4_3 r4), σ5))) else gd (rng64 (gF σ5 1993) ∧ rng64 r4 ∧ r4 ≠ (0 : Int)) (gd ((Int.tdiv (gF σ5 1993) r4) ≠ THR) (some ((Int.tdiv (gF σ5 1993) r4), σ5)))) else bv (gF σ2 1991) fun x4_6 => bnd (f_W_commonMeasure F σ2 x4_6 (gF σ2 1993)) fun r7 σ8 => gd (rng (iandI x3 1)) (if (iandI x3 1) = 0 then gd (rng64 x4_6 ∧ rng64 r7 ∧ r7 ≠ (0 : Int)) (gd ((Int.tdiv x4_6 r7) ≠ THR) (some ((Int.tdiv x4_6 r7), σ8))) else gd (rng64 (gF σ8 1993) ∧ rng64 r7 ∧ r7 ≠ (0 : Int)) (gd ((Int.tdiv (gF σ8 1993) r7) ≠ THR) (some ((Int.tdiv (gF σ8 1993) r7), σ8))))))))
set_option maxRecDepth 100000 in
set_option maxHeartbeats 4000000 in
theorem c_W_cross {x : Bool} (F : Nat) (σ : St) (x1 x2 x3 : Int) : CtX 6 0 2 yX10_cross cX10_cross 8 (some .long) (LYC x false false) (LYC x false false) [.ref 0, vi x1, vi x2, vi x3] σ (f_W_cross F σ x1 x2 x3) := by
  unfold f_W_cross
  refine CtX_of (d := 6) (kp := 0) (kd := 2) (own := RX10) (nL := 8) (ret := (some .long)) (LY := (LYC x false false)) (LYe := (LYC x false false)) (L := [some (.ref 0), some (vi x1), some (vi x2), some (vi x3), none, none, none, none]) rfl (by decide +kernel) rfl rfl mf_L_18.2.2.2.1 rfl fun K => ?_
  refine a_iload_n dX10_cross_0 rfl ?_
  refine a_if_lt dX10_cross_1 rfl (fun _ => ?_) (fun _ => ?_)
  · exact a_throw rfl rfl rfl dX10_cross_24 dX10_cross_27 dX10_cross_28 dX10_cross_31
  refine a_iload_n dX10_cross_4 rfl ?_
  refine a_iconst dX10_cross_5 ?_
  refine a_icmp_gt dX10_cross_6 rfl (fun _ => ?_) (fun _ => ?_)
  · exact a_throw rfl rfl rfl dX10_cross_24 dX10_cross_27 dX10_cross_28 dX10_cross_31
  refine a_aload_n dX10_cross_9 rfl ?_
  refine a_getR (c0 := 79) fl_X10_26 lyC_0 rfl dX10_cross_10 (key := 2) rfl ?_
  refine a_getR (c0 := 31) fl_X10_316 lyC_79 rfl dX10_cross_13 (key := 5057) rfl ?_
  refine a_iload_n dX10_cross_16 rfl ?_
  refine a_iload_n dX10_cross_17 rfl ?_
  refine a_callVi (as := [vi x1, vi x2]) mf_X10_320 lyC_31 rfl (c_Compass_meet_compass0 F _ _ _) LYsame.rf dX10_cross_18 rfl rfl rfl rfl rfl rfl (Or.inl rfl) fun r1 σ2 => ?_
  refine a_if_ne dX10_cross_21 rfl (fun _ => ?_) (fun _ => ?_)
  · refine a_iload_n dX10_cross_32 rfl ?_
    refine a_iconst dX10_cross_33 ?_
    refine a_icmp_ge dX10_cross_34 rfl (fun _ => ?_) (fun _ => ?_)
    · refine a_aload_n dX10_cross_50 rfl ?_
      refine a_getR (c0 := 79) fl_X10_26 lyC_0 rfl dX10_cross_51 (key := 2) rfl ?_
      refine a_getR (c0 := 31) fl_X10_316 lyC_79 rfl dX10_cross_54 (key := 5057) rfl ?_
      refine a_getL fl_X10_328 lyC_31 rfl dX10_cross_57 (key := 1992) rfl ?_
      refine a_bv fun x4_3 ex4_3 => ?_
      refine a_lstore (y := x4_3) (L' := [some (.ref 0), some (vi x1), some (vi x2), some (vi x3), some (vl x4_3), none, none, none]) dX10_cross_60 ex4_3 rfl rfl rfl ?_
      refine a_lload dX10_cross_62 rfl ?_
      refine a_aload_n dX10_cross_64 rfl ?_
      refine a_getR (c0 := 79) fl_X10_26 lyC_0 rfl dX10_cross_65 (key := 2) rfl ?_
      refine a_getR (c0 := 31) fl_X10_316 lyC_79 rfl dX10_cross_68 (key := 5057) rfl ?_
      refine a_getL fl_X10_331 lyC_31 rfl dX10_cross_71 (key := 1993) rfl ?_
      refine a_callSl (as := [vl x4_3, vl (gF σ2 1993)]) mf_X10_334 (c_W_commonMeasure F _ _ _) LYsame.rf dX10_cross_74 rfl rfl rfl rfl rfl rfl (Or.inl rfl) fun r4 σ5 => ?_
      refine a_lstore (L' := [some (.ref 0), some (vi x1), some (vi x2), some (vi x3), some (vl x4_3), none, some (vl r4), none]) dX10_cross_77 rfl rfl rfl rfl ?_
      refine a_iload_n dX10_cross_79 rfl ?_
      refine a_iconst dX10_cross_80 ?_
      refine a_iand dX10_cross_81 ?_
      refine a_if_ne dX10_cross_82 rfl (fun _ => ?_) (fun _ => ?_)
      · refine a_aload_n dX10_cross_93 rfl ?_
        refine a_getR (c0 := 79) fl_X10_26 lyC_0 rfl dX10_cross_94 (key := 2) rfl ?_
        refine a_getR (c0 := 31) fl_X10_316 lyC_79 rfl dX10_cross_97 (key := 5057) rfl ?_
        refine a_getL fl_X10_331 lyC_31 rfl dX10_cross_100 (key := 1993) rfl ?_
        refine a_lload dX10_cross_103 rfl ?_
        refine a_ldiv dX10_cross_105 (fun _ => ?_)
        exact a_lretX dX10_cross_106
      refine a_lload dX10_cross_85 rfl ?_
      refine a_lload dX10_cross_87 rfl ?_
      refine a_ldiv dX10_cross_89 (fun _ => ?_)
      refine a_goto dX10_cross_90 rfl ?_
      exact a_lretX dX10_cross_106
    refine a_aload_n dX10_cross_37 rfl ?_
    refine a_getR (c0 := 79) fl_X10_26 lyC_0 rfl dX10_cross_38 (key := 2) rfl ?_
    refine a_getR (c0 := 31) fl_X10_316 lyC_79 rfl dX10_cross_41 (key := 5057) rfl ?_
    refine a_getL fl_X10_325 lyC_31 rfl dX10_cross_44 (key := 1991) rfl ?_
    refine a_goto dX10_cross_47 rfl ?_
    refine a_bv fun x4_6 ex4_6 => ?_
    refine a_lstore (y := x4_6) (L' := [some (.ref 0), some (vi x1), some (vi x2), some (vi x3), some (vl x4_6), none, none, none]) dX10_cross_60 ex4_6 rfl rfl rfl ?_
    refine a_lload dX10_cross_62 rfl ?_
    refine a_aload_n dX10_cross_64 rfl ?_
    refine a_getR (c0 := 79) fl_X10_26 lyC_0 rfl dX10_cross_65 (key := 2) rfl ?_
    refine a_getR (c0 := 31) fl_X10_316 lyC_79 rfl dX10_cross_68 (key := 5057) rfl ?_
    refine a_getL fl_X10_331 lyC_31 rfl dX10_cross_71 (key := 1993) rfl ?_
    refine a_callSl (as := [vl x4_6, vl (gF σ2 1993)]) mf_X10_334 (c_W_commonMeasure F _ _ _) LYsame.rf dX10_cross_74 rfl rfl rfl rfl rfl rfl (Or.inl rfl) fun r7 σ8 => ?_
    refine a_lstore (L' := [some (.ref 0), some (vi x1), some (vi x2), some (vi x3), some (vl x4_6), none, some (vl r7), none]) dX10_cross_77 rfl rfl rfl rfl ?_
    refine a_iload_n dX10_cross_79 rfl ?_
    refine a_iconst dX10_cross_80 ?_
    refine a_iand dX10_cross_81 ?_
    refine a_if_ne dX10_cross_82 rfl (fun _ => ?_) (fun _ => ?_)
    · refine a_aload_n dX10_cross_93 rfl ?_
      refine a_getR (c0 := 79) fl_X10_26 lyC_0 rfl dX10_cross_94 (key := 2) rfl ?_
      refine a_getR (c0 := 31) fl_X10_316 lyC_79 rfl dX10_cross_97 (key := 5057) rfl ?_
      refine a_getL fl_X10_331 lyC_31 rfl dX10_cross_100 (key := 1993) rfl ?_
      refine a_lload dX10_cross_103 rfl ?_
      refine a_ldiv dX10_cross_105 (fun _ => ?_)
      exact a_lretX dX10_cross_106
    refine a_lload dX10_cross_85 rfl ?_
    refine a_lload dX10_cross_87 rfl ?_
    refine a_ldiv dX10_cross_89 (fun _ => ?_)
    refine a_goto dX10_cross_90 rfl ?_
    exact a_lretX dX10_cross_106
  exact a_throw rfl rfl rfl dX10_cross_24 dX10_cross_27 dX10_cross_28 dX10_cross_31
def b_Compass_throughMeeting_compass0_4 (F : Nat) (self : St → Int → Int → Option (Int × St)) (σ : St) (x1 x2 : Int) : Option (Int × St) := gd (rng x2 ∧ rng (gF σ 1987)) (if (gF σ 1987) ≤ x2 then some (x1, σ) else gd (inb x2 8) (gd (inb (gA σ 43 (Int.toNat x2)) 4) (bv (gA σ 35 (Int.toNat (gA σ 43 (Int.toNat x2)))) fun t1 => gd (rng t1) (bv ((gF σ 1991) - (t1 * (gF σ 1993))) fun t2 => gd (inb x2 8) (gd (inb (gA σ 43 (Int.toNat x2)) 4) (bv (gA σ 39 (Int.toNat (gA σ 43 (Int.toNat x2)))) fun t3 => gd (rng t3) (bv ((gF σ 1992) - (t3 * (gF σ 1993))) fun t4 => gd (inb x2 8) (gd (rng (gA σ 51 (Int.toNat x2))) (bv (t2 * (gA σ 51 (Int.toNat x2))) fun t5 => gd (inb x2 8) (gd (rng (gA σ 47 (Int.toNat x2))) (bv (t4 * (gA σ 47 (Int.toNat x2))) fun t6 => gd (rng64 t5 ∧ rng64 t6) (if t5 = t6 then gd (inb x2 8) (gd (rng (gA σ 47 (Int.toNat x2))) (bv (t2 * (gA σ 47 (Int.toNat x2))) fun t8 => gd (inb x2 8) (gd (rng (gA σ 51 (Int.toNat x2))) (bv (t4 * (gA σ 51 (Int.toNat x2))) fun t9 => gd (rng64 (t8 + t9) ∧ rng64 0) (if (t8 + t9) ≤ 0 then bv (x2 + 1) fun x2_10 => self σ x1 x2_10 else gd (sh5 x2) (bv (iorI x1 (1 * 2 ^ (Int.toNat x2))) fun t11 => bv (x2 + 1) fun x2_12 => self σ t11 x2_12)))))) else bv (x2 + 1) fun x2_7 => self σ x1 x2_7))))))))))))
def l_Compass_throughMeeting_compass0_4 (F : Nat) : Nat → St → Int → Int → Option (Int × St)
  | 0 => fun _ _ _ => none
  | n + 1 => fun σ x1 x2 => b_Compass_throughMeeting_compass0_4 F (l_Compass_throughMeeting_compass0_4 F n) σ x1 x2
def f_Compass_throughMeeting_compass0 (F : Nat) (σ : St) : Option (Int × St) := l_Compass_throughMeeting_compass0_4 F F σ 0 0
set_option maxRecDepth 100000 in
set_option maxHeartbeats 4000000 in
theorem cb_Compass_throughMeeting_compass0_4 {K : KX} {x : Bool} (F : Nat) (self : St → Int → Int → Option (Int × St)) (hself : ∀ σ x1 x2, WA 1 0 1 cX0_throughMeeting RX0 7 (some .int) (LYC x false false) (LYC x false false) K 4 [some (.ref 31), some (vi x1), some (vi x2), none, none, none, none] [] σ (self σ x1 x2)) (σ : St) (x1 x2 : Int) : WA 1 0 1 cX0_throughMeeting RX0 7 (some .int) (LYC x false false) (LYC x false false) K 4 [some (.ref 31), some (vi x1), some (vi x2), none, none, none, none] [] σ (b_Compass_throughMeeting_compass0_4 F self σ x1 x2) := by
  unfold b_Compass_throughMeeting_compass0_4
  refine a_iload_n dX0_throughMeeting_4 rfl ?_
  refine a_aload_n dX0_throughMeeting_5 rfl ?_
  refine a_getI fl_X0_41 lyC_31 rfl dX0_throughMeeting_6 (key := 1987) rfl ?_
  refine a_icmp_ge dX0_throughMeeting_9 rfl (fun _ => ?_) (fun _ => ?_)
  · refine a_iload_n dX0_throughMeeting_119 rfl ?_
    exact a_iret dX0_throughMeeting_120
  refine a_aload_n dX0_throughMeeting_12 rfl ?_
  refine a_getL fl_X0_48 lyC_31 rfl dX0_throughMeeting_13 (key := 1991) rfl ?_
  refine a_aload_n dX0_throughMeeting_16 rfl ?_
  refine a_getR (c0 := 35) fl_X0_9 lyC_31 rfl dX0_throughMeeting_17 (key := 1985) rfl ?_
  refine a_aload_n dX0_throughMeeting_20 rfl ?_
  refine a_getR (c0 := 43) fl_X0_18 lyC_31 rfl dX0_throughMeeting_21 (key := 1988) rfl ?_
  refine a_iload_n dX0_throughMeeting_24 rfl ?_
  refine a_iald lyC_43 rfl dX0_throughMeeting_25 ?_
  refine a_iald lyC_35 rfl dX0_throughMeeting_26 ?_
  refine a_bvi fun t1 => ?_
  refine a_i2l dX0_throughMeeting_27 (fun _ => ?_)
  refine a_aload_n dX0_throughMeeting_28 rfl ?_
  refine a_getL fl_X0_27 lyC_31 rfl dX0_throughMeeting_29 (key := 1993) rfl ?_
  refine a_lmul dX0_throughMeeting_32 ?_
  refine a_lsub dX0_throughMeeting_33 ?_
  refine a_bvl fun t2 => ?_
  refine a_lstore_n (L' := [some (.ref 31), some (vi x1), some (vi x2), some (vl t2), none, none, none]) dX0_throughMeeting_34 rfl rfl rfl rfl ?_
  refine a_aload_n dX0_throughMeeting_35 rfl ?_
  refine a_getL fl_X0_51 lyC_31 rfl dX0_throughMeeting_36 (key := 1992) rfl ?_
  refine a_aload_n dX0_throughMeeting_39 rfl ?_
  refine a_getR (c0 := 39) fl_X0_15 lyC_31 rfl dX0_throughMeeting_40 (key := 1986) rfl ?_
  refine a_aload_n dX0_throughMeeting_43 rfl ?_
  refine a_getR (c0 := 43) fl_X0_18 lyC_31 rfl dX0_throughMeeting_44 (key := 1988) rfl ?_
  refine a_iload_n dX0_throughMeeting_47 rfl ?_
  refine a_iald lyC_43 rfl dX0_throughMeeting_48 ?_
  refine a_iald lyC_39 rfl dX0_throughMeeting_49 ?_
  refine a_bvi fun t3 => ?_
  refine a_i2l dX0_throughMeeting_50 (fun _ => ?_)
  refine a_aload_n dX0_throughMeeting_51 rfl ?_
  refine a_getL fl_X0_27 lyC_31 rfl dX0_throughMeeting_52 (key := 1993) rfl ?_
  refine a_lmul dX0_throughMeeting_55 ?_
  refine a_lsub dX0_throughMeeting_56 ?_
  refine a_bvl fun t4 => ?_
  refine a_lstore (L' := [some (.ref 31), some (vi x1), some (vi x2), some (vl t2), none, some (vl t4), none]) dX0_throughMeeting_57 rfl rfl rfl rfl ?_
  refine a_lload_n dX0_throughMeeting_59 rfl ?_
  refine a_aload_n dX0_throughMeeting_60 rfl ?_
  refine a_getR (c0 := 51) fl_X0_24 lyC_31 rfl dX0_throughMeeting_61 (key := 1990) rfl ?_
  refine a_iload_n dX0_throughMeeting_64 rfl ?_
  refine a_iald lyC_51 rfl dX0_throughMeeting_65 ?_
  refine a_i2l dX0_throughMeeting_66 (fun _ => ?_)
  refine a_lmul dX0_throughMeeting_67 ?_
  refine a_bvl fun t5 => ?_
  refine a_lload dX0_throughMeeting_68 rfl ?_
  refine a_aload_n dX0_throughMeeting_70 rfl ?_
  refine a_getR (c0 := 47) fl_X0_21 lyC_31 rfl dX0_throughMeeting_71 (key := 1989) rfl ?_
  refine a_iload_n dX0_throughMeeting_74 rfl ?_
  refine a_iald lyC_47 rfl dX0_throughMeeting_75 ?_
  refine a_i2l dX0_throughMeeting_76 (fun _ => ?_)
  refine a_lmul dX0_throughMeeting_77 ?_
  refine a_bvl fun t6 => ?_
  refine a_lcmp_ne dX0_throughMeeting_78 dX0_throughMeeting_79 rfl (fun _ => ?_) (fun _ => ?_)
  · refine a_bv fun x2_7 ex2_7 => ?_
    refine a_iinc (y := x2_7) (L' := [some (.ref 31), some (vi x1), some (vi x2_7), some (vl t2), none, some (vl t4), none]) dX0_throughMeeting_113 rfl ex2_7 rfl rfl rfl ?_
    refine a_goto dX0_throughMeeting_116 rfl ?_
    exact a_L (lsub_get (A := [some (.ref 31), some (vi x1), some (vi x2_7), none, none, none, none]) ⟨rfl, ⟨rfl, ⟨rfl, trivial⟩⟩⟩) (hself _ _ _)
  refine a_lload_n dX0_throughMeeting_82 rfl ?_
  refine a_aload_n dX0_throughMeeting_83 rfl ?_
  refine a_getR (c0 := 47) fl_X0_21 lyC_31 rfl dX0_throughMeeting_84 (key := 1989) rfl ?_
  refine a_iload_n dX0_throughMeeting_87 rfl ?_
  refine a_iald lyC_47 rfl dX0_throughMeeting_88 ?_
  refine a_i2l dX0_throughMeeting_89 (fun _ => ?_)
  refine a_lmul dX0_throughMeeting_90 ?_
  refine a_bvl fun t8 => ?_
  refine a_lload dX0_throughMeeting_91 rfl ?_
  refine a_aload_n dX0_throughMeeting_93 rfl ?_
  refine a_getR (c0 := 51) fl_X0_24 lyC_31 rfl dX0_throughMeeting_94 (key := 1990) rfl ?_
  refine a_iload_n dX0_throughMeeting_97 rfl ?_
  refine a_iald lyC_51 rfl dX0_throughMeeting_98 ?_
  refine a_i2l dX0_throughMeeting_99 (fun _ => ?_)
  refine a_lmul dX0_throughMeeting_100 ?_
  refine a_bvl fun t9 => ?_
  refine a_ladd dX0_throughMeeting_101 ?_
  refine a_lconst (v := 0) dX0_throughMeeting_102 rfl ?_
  refine a_lcmp_le dX0_throughMeeting_103 dX0_throughMeeting_104 rfl (fun _ => ?_) (fun _ => ?_)
  · refine a_bv fun x2_10 ex2_10 => ?_
    refine a_iinc (y := x2_10) (L' := [some (.ref 31), some (vi x1), some (vi x2_10), some (vl t2), none, some (vl t4), none]) dX0_throughMeeting_113 rfl ex2_10 rfl rfl rfl ?_
    refine a_goto dX0_throughMeeting_116 rfl ?_
    exact a_L (lsub_get (A := [some (.ref 31), some (vi x1), some (vi x2_10), none, none, none, none]) ⟨rfl, ⟨rfl, ⟨rfl, trivial⟩⟩⟩) (hself _ _ _)
  refine a_iload_n dX0_throughMeeting_107 rfl ?_
  refine a_iconst dX0_throughMeeting_108 ?_
  refine a_iload_n dX0_throughMeeting_109 rfl ?_
  refine a_ishl dX0_throughMeeting_110 (fun _ => ?_)
  refine a_ior dX0_throughMeeting_111 ?_
  refine a_bvi fun t11 => ?_
  refine a_istore_n (L' := [some (.ref 31), some (vi t11), some (vi x2), some (vl t2), none, some (vl t4), none]) dX0_throughMeeting_112 rfl rfl rfl rfl ?_
  refine a_bv fun x2_12 ex2_12 => ?_
  refine a_iinc (y := x2_12) (L' := [some (.ref 31), some (vi t11), some (vi x2_12), some (vl t2), none, some (vl t4), none]) dX0_throughMeeting_113 rfl ex2_12 rfl rfl rfl ?_
  refine a_goto dX0_throughMeeting_116 rfl ?_
  exact a_L (lsub_get (A := [some (.ref 31), some (vi t11), some (vi x2_12), none, none, none, none]) ⟨rfl, ⟨rfl, ⟨rfl, trivial⟩⟩⟩) (hself _ _ _)
set_option maxRecDepth 100000 in
set_option maxHeartbeats 4000000 in
theorem cl_Compass_throughMeeting_compass0_4 {K : KX} {x : Bool} (F : Nat) : ∀ (n : Nat) (σ : St) (x1 x2 : Int), WA 1 0 1 cX0_throughMeeting RX0 7 (some .int) (LYC x false false) (LYC x false false) K 4 [some (.ref 31), some (vi x1), some (vi x2), none, none, none, none] [] σ (l_Compass_throughMeeting_compass0_4 F n σ x1 x2)
  | 0, _, _, _ => a_none
  | n + 1, σ, x1, x2 => cb_Compass_throughMeeting_compass0_4 F _ (cl_Compass_throughMeeting_compass0_4 F n) σ x1 x2
set_option maxRecDepth 100000 in
set_option maxHeartbeats 4000000 in
theorem c_Compass_throughMeeting_compass0 {x : Bool} (F : Nat) (σ : St) : Ct 1 0 1 yX0_throughMeeting cX0_throughMeeting 7 (some .int) (LYC x false false) (LYC x false false) [.ref 31] σ (f_Compass_throughMeeting_compass0 F σ) := by
  unfold f_Compass_throughMeeting_compass0
  refine Ct_of (d := 1) (kp := 0) (kd := 1) (own := RX0) (nL := 7) (ret := (some .int)) (LY := (LYC x false false)) (LYe := (LYC x false false)) (L := [some (.ref 31), none, none, none, none, none, none]) rfl (by decide +kernel) rfl rfl mf_X1_70.2.2.2.1 rfl fun K => ?_
  refine a_iconst dX0_throughMeeting_0 ?_
  refine a_istore_n (L' := [some (.ref 31), some (vi 0), none, none, none, none, none]) dX0_throughMeeting_1 rfl rfl rfl rfl ?_
  refine a_iconst dX0_throughMeeting_2 ?_
  refine a_istore_n (L' := [some (.ref 31), some (vi 0), some (vi 0), none, none, none, none]) dX0_throughMeeting_3 rfl rfl rfl rfl ?_
  exact cl_Compass_throughMeeting_compass0_4 F F _ _ _
def b_Fixer_listPoint_2 (F : Nat) (self : St → Int → Int → Int → Option (Int × St)) (σ : St) (x1 x2 x3 : Int) : Option (Int × St) := gd (rng x3 ∧ rng (gF σ 5633)) (if (gF σ 5633) ≤ x3 then gd (rng (gF σ 5633) ∧ rng 28) (if (28 : Int) ≤ (gF σ 5633) then some (0, σ) else gd (inb (gF σ 5633) 28) (bs (sA σ 91 (Int.toNat (gF σ 5633)) x1) fun σ1 => gd (inb (gF σ1 5633) 28) (bs (sA σ1 92 (Int.toNat (gF σ1 5633)) x2) fun σ2 => bs (sF σ2 5633 ((gF σ2 5633) + 1)) fun σ3 => some (0, σ3)))) else gd (inb x3 28) (gd (rng (gA σ 92 (Int.toNat x3)) ∧ rng x2) (if (gA σ 92 (Int.toNat x3)) = x2 then some (0, σ) else bv (x3 + 1) fun x3_4 => self σ x1 x2 x3_4)))
def l_Fixer_listPoint_2 (F : Nat) : Nat → St → Int → Int → Int → Option (Int × St)
  | 0 => fun _ _ _ _ => none
  | n + 1 => fun σ x1 x2 x3 => b_Fixer_listPoint_2 F (l_Fixer_listPoint_2 F n) σ x1 x2 x3
def f_Fixer_listPoint (F : Nat) (σ : St) (x1 x2 : Int) : Option (Int × St) := l_Fixer_listPoint_2 F F σ x1 x2 0
set_option maxRecDepth 100000 in
set_option maxHeartbeats 4000000 in
theorem cb_Fixer_listPoint_2 {K : KX} {x : Bool} (F : Nat) (self : St → Int → Int → Int → Option (Int × St)) (hself : ∀ σ x1 x2 x3, WA 1 0 0 cX1_listPoint RX1 4 none (LYC x false false) (LYC x false false) K 2 [some (.ref 88), some (vi x1), some (vi x2), some (vi x3)] [] σ (self σ x1 x2 x3)) (σ : St) (x1 x2 x3 : Int) : WA 1 0 0 cX1_listPoint RX1 4 none (LYC x false false) (LYC x false false) K 2 [some (.ref 88), some (vi x1), some (vi x2), some (vi x3)] [] σ (b_Fixer_listPoint_2 F self σ x1 x2 x3) := by
  unfold b_Fixer_listPoint_2
  refine a_iload_n dX1_listPoint_2 rfl ?_
  refine a_aload_n dX1_listPoint_3 rfl ?_
  refine a_getI fl_X1_63 lyC_88 rfl dX1_listPoint_4 (key := 5633) rfl ?_
  refine a_icmp_ge dX1_listPoint_7 rfl (fun _ => ?_) (fun _ => ?_)
  · refine a_aload_n dX1_listPoint_27 rfl ?_
    refine a_getI fl_X1_63 lyC_88 rfl dX1_listPoint_28 (key := 5633) rfl ?_
    refine a_bipush dX1_listPoint_31 bi_28 ?_
    refine a_icmp_ge dX1_listPoint_33 rfl (fun _ => ?_) (fun _ => ?_)
    · exact a_vret dX1_listPoint_66
    refine a_aload_n dX1_listPoint_36 rfl ?_
    refine a_getR (c0 := 91) fl_X1_20 lyC_88 rfl dX1_listPoint_37 (key := 5634) rfl ?_
    refine a_aload_n dX1_listPoint_40 rfl ?_
    refine a_getI fl_X1_63 lyC_88 rfl dX1_listPoint_41 (key := 5633) rfl ?_
    refine a_iload_n dX1_listPoint_44 rfl ?_
    refine a_iast lyC_91 rfl dX1_listPoint_45 fun σ1 => ?_
    refine a_aload_n dX1_listPoint_46 rfl ?_
    refine a_getR (c0 := 92) fl_X1_24 lyC_88 rfl dX1_listPoint_47 (key := 5635) rfl ?_
    refine a_aload_n dX1_listPoint_50 rfl ?_
    refine a_getI fl_X1_63 lyC_88 rfl dX1_listPoint_51 (key := 5633) rfl ?_
    refine a_iload_n dX1_listPoint_54 rfl ?_
    refine a_iast lyC_92 rfl dX1_listPoint_55 fun σ2 => ?_
    refine a_aload_n dX1_listPoint_56 rfl ?_
    refine a_dup dX1_listPoint_57 rfl ?_
    refine a_getI fl_X1_63 lyC_88 rfl dX1_listPoint_58 (key := 5633) rfl ?_
    refine a_iconst dX1_listPoint_61 ?_
    refine a_iadd dX1_listPoint_62 ?_
    refine a_putI fl_X1_63 cf_X1 rfl rfl lyC_88 rfl dX1_listPoint_63 (key := 5633) rfl fun σ3 => ?_
    exact a_vret dX1_listPoint_66
  refine a_aload_n dX1_listPoint_10 rfl ?_
  refine a_getR (c0 := 92) fl_X1_24 lyC_88 rfl dX1_listPoint_11 (key := 5635) rfl ?_
  refine a_iload_n dX1_listPoint_14 rfl ?_
  refine a_iald lyC_92 rfl dX1_listPoint_15 ?_
  refine a_iload_n dX1_listPoint_16 rfl ?_
  refine a_icmp_ne dX1_listPoint_17 rfl (fun _ => ?_) (fun _ => ?_)
  · refine a_bv fun x3_4 ex3_4 => ?_
    refine a_iinc (y := x3_4) (L' := [some (.ref 88), some (vi x1), some (vi x2), some (vi x3_4)]) dX1_listPoint_21 rfl ex3_4 rfl rfl rfl ?_
    refine a_goto dX1_listPoint_24 rfl ?_
    exact hself _ _ _ _
  exact a_vret dX1_listPoint_20
set_option maxRecDepth 100000 in
set_option maxHeartbeats 4000000 in
theorem cl_Fixer_listPoint_2 {K : KX} {x : Bool} (F : Nat) : ∀ (n : Nat) (σ : St) (x1 x2 x3 : Int), WA 1 0 0 cX1_listPoint RX1 4 none (LYC x false false) (LYC x false false) K 2 [some (.ref 88), some (vi x1), some (vi x2), some (vi x3)] [] σ (l_Fixer_listPoint_2 F n σ x1 x2 x3)
  | 0, _, _, _, _ => a_none
  | n + 1, σ, x1, x2, x3 => cb_Fixer_listPoint_2 F _ (cl_Fixer_listPoint_2 F n) σ x1 x2 x3
set_option maxRecDepth 100000 in
set_option maxHeartbeats 4000000 in
theorem c_Fixer_listPoint {x : Bool} (F : Nat) (σ : St) (x1 x2 : Int) : Ct 1 0 0 yX1_listPoint cX1_listPoint 4 none (LYC x false false) (LYC x false false) [.ref 88, vi x1, vi x2] σ (f_Fixer_listPoint F σ x1 x2) := by
  unfold f_Fixer_listPoint
  refine Ct_of (d := 1) (kp := 0) (kd := 0) (own := RX1) (nL := 4) (ret := none) (LY := (LYC x false false)) (LYe := (LYC x false false)) (L := [some (.ref 88), some (vi x1), some (vi x2), none]) rfl (by decide +kernel) rfl rfl mf_X1_73.2.2.2.1 rfl fun K => ?_
  refine a_iconst dX1_listPoint_0 ?_
  refine a_istore_n (L' := [some (.ref 88), some (vi x1), some (vi x2), some (vi 0)]) dX1_listPoint_1 rfl rfl rfl rfl ?_
  exact cl_Fixer_listPoint_2 F F _ _ _ _
def b_Fixer_listPoints_compass0_19 (F : Nat) (k7 : St → Int → Option (Int × St)) (self : St → Int → Int → Option (Int × St)) (σ : St) (x2 x3 : Int) : Option (Int × St) := gd (rng x3 ∧ rng (gF σ 1987)) (if (gF σ 1987) ≤ x3 then bv (x2 + 1) fun x2_3 => k7 σ x2_3 else bnd (f_Compass_meet_compass0 F σ x2 x3) fun r4 σ5 => gd (rng r4) (if r4 = 0 then bv (x3 + 1) fun x3_6 => self σ5 x2 x3_6 else bnd (f_Compass_throughMeeting_compass0 F σ5) fun r7 σ8 => bnd (f_Fixer_listPoint F σ8 ((10 * x2) + x3) r7) fun r9 σ10 => bv (x3 + 1) fun x3_11 => self σ10 x2 x3_11))
def l_Fixer_listPoints_compass0_19 (F : Nat) (k7 : St → Int → Option (Int × St)) : Nat → St → Int → Int → Option (Int × St)
  | 0 => fun _ _ _ => none
  | n + 1 => fun σ x2 x3 => b_Fixer_listPoints_compass0_19 F k7 (l_Fixer_listPoints_compass0_19 F k7 n) σ x2 x3
def b_Fixer_listPoints_compass0_7 (F : Nat) (self : St → Int → Option (Int × St)) (σ : St) (x2 : Int) : Option (Int × St) := gd (rng x2 ∧ rng (gF σ 1987)) (if (gF σ 1987) ≤ x2 then some (0, σ) else bv (x2 + 1) fun x3_2 => l_Fixer_listPoints_compass0_19 F self F σ x2 x3_2)
def l_Fixer_listPoints_compass0_7 (F : Nat) : Nat → St → Int → Option (Int × St)
  | 0 => fun _ _ => none
  | n + 1 => fun σ x2 => b_Fixer_listPoints_compass0_7 F (l_Fixer_listPoints_compass0_7 F n) σ x2
def f_Fixer_listPoints_compass0 (F : Nat) (σ : St) : Option (Int × St) := bs (sF σ 5633 0) fun σ1 => l_Fixer_listPoints_compass0_7 F F σ1 0
set_option maxRecDepth 100000 in
set_option maxHeartbeats 4000000 in
theorem cb_Fixer_listPoints_compass0_19 {K : KX} {x : Bool} (F : Nat) (k7 : St → Int → Option (Int × St)) (h7 : ∀ σ x2, WA 3 0 0 cX1_listPoints RX1 4 none (LYC x false false) (LYC x false false) K 7 [some (.ref 88), some (.ref 31), some (vi x2), none] [] σ (k7 σ x2)) (self : St → Int → Int → Option (Int × St)) (hself : ∀ σ x2 x3, WA 3 0 0 cX1_listPoints RX1 4 none (LYC x false false) (LYC x false false) K 19 [some (.ref 88), some (.ref 31), some (vi x2), some (vi x3)] [] σ (self σ x2 x3)) (σ : St) (x2 x3 : Int) : WA 3 0 0 cX1_listPoints RX1 4 none (LYC x false false) (LYC x false false) K 19 [some (.ref 88), some (.ref 31), some (vi x2), some (vi x3)] [] σ (b_Fixer_listPoints_compass0_19 F k7 self σ x2 x3) := by
  unfold b_Fixer_listPoints_compass0_19
  refine a_iload_n dX1_listPoints_19 rfl ?_
  refine a_aload_n dX1_listPoints_20 rfl ?_
  refine a_getI fl_X1_34 lyC_31 rfl dX1_listPoints_21 (key := 1987) rfl ?_
  refine a_icmp_ge dX1_listPoints_24 rfl (fun _ => ?_) (fun _ => ?_)
  · refine a_bv fun x2_3 ex2_3 => ?_
    refine a_iinc (y := x2_3) (L' := [some (.ref 88), some (.ref 31), some (vi x2_3), some (vi x3)]) dX1_listPoints_56 rfl ex2_3 rfl rfl rfl ?_
    refine a_goto dX1_listPoints_59 rfl ?_
    exact a_L (lsub_get (A := [some (.ref 88), some (.ref 31), some (vi x2_3), none]) ⟨rfl, ⟨rfl, ⟨rfl, trivial⟩⟩⟩) (h7 _ _)
  refine a_aload_n dX1_listPoints_27 rfl ?_
  refine a_iload_n dX1_listPoints_28 rfl ?_
  refine a_iload_n dX1_listPoints_29 rfl ?_
  refine a_callVi (as := [vi x2, vi x3]) mf_X1_66 lyC_31 rfl (c_Compass_meet_compass0 F _ _ _) LYsame.rf dX1_listPoints_30 rfl rfl rfl rfl rfl rfl (Or.inl rfl) fun r4 σ5 => ?_
  refine a_if_eq dX1_listPoints_33 rfl (fun _ => ?_) (fun _ => ?_)
  · refine a_bv fun x3_6 ex3_6 => ?_
    refine a_iinc (y := x3_6) (L' := [some (.ref 88), some (.ref 31), some (vi x2), some (vi x3_6)]) dX1_listPoints_50 rfl ex3_6 rfl rfl rfl ?_
    refine a_goto dX1_listPoints_53 rfl ?_
    exact hself _ _ _
  refine a_aload_n dX1_listPoints_36 rfl ?_
  refine a_bipush dX1_listPoints_37 bi_10 ?_
  refine a_iload_n dX1_listPoints_39 rfl ?_
  refine a_imul dX1_listPoints_40 ?_
  refine a_iload_n dX1_listPoints_41 rfl ?_
  refine a_iadd dX1_listPoints_42 ?_
  refine a_aload_n dX1_listPoints_43 rfl ?_
  refine a_callVi (as := []) mf_X1_70 lyC_31 rfl (c_Compass_throughMeeting_compass0 F _) LYsame.rf dX1_listPoints_44 rfl rfl rfl rfl rfl rfl (Or.inl rfl) fun r7 σ8 => ?_
  refine a_callVv (as := [vi ((10 * x2) + x3), vi r7]) mf_X1_73 lyC_88 rfl (c_Fixer_listPoint F _ _ _) LYsame.rf dX1_listPoints_47 rfl rfl rfl rfl rfl rfl (Or.inl rfl) fun r9 σ10 => ?_
  refine a_bv fun x3_11 ex3_11 => ?_
  refine a_iinc (y := x3_11) (L' := [some (.ref 88), some (.ref 31), some (vi x2), some (vi x3_11)]) dX1_listPoints_50 rfl ex3_11 rfl rfl rfl ?_
  refine a_goto dX1_listPoints_53 rfl ?_
  exact hself _ _ _
set_option maxRecDepth 100000 in
set_option maxHeartbeats 4000000 in
theorem cl_Fixer_listPoints_compass0_19 {K : KX} {x : Bool} (F : Nat) (k7 : St → Int → Option (Int × St)) (h7 : ∀ σ x2, WA 3 0 0 cX1_listPoints RX1 4 none (LYC x false false) (LYC x false false) K 7 [some (.ref 88), some (.ref 31), some (vi x2), none] [] σ (k7 σ x2)) : ∀ (n : Nat) (σ : St) (x2 x3 : Int), WA 3 0 0 cX1_listPoints RX1 4 none (LYC x false false) (LYC x false false) K 19 [some (.ref 88), some (.ref 31), some (vi x2), some (vi x3)] [] σ (l_Fixer_listPoints_compass0_19 F k7 n σ x2 x3)
  | 0, _, _, _ => a_none
  | n + 1, σ, x2, x3 => cb_Fixer_listPoints_compass0_19 F k7 h7 _ (cl_Fixer_listPoints_compass0_19 F k7 h7 n) σ x2 x3
set_option maxRecDepth 100000 in
set_option maxHeartbeats 4000000 in
theorem cb_Fixer_listPoints_compass0_7 {K : KX} {x : Bool} (F : Nat) (self : St → Int → Option (Int × St)) (hself : ∀ σ x2, WA 3 0 0 cX1_listPoints RX1 4 none (LYC x false false) (LYC x false false) K 7 [some (.ref 88), some (.ref 31), some (vi x2), none] [] σ (self σ x2)) (σ : St) (x2 : Int) : WA 3 0 0 cX1_listPoints RX1 4 none (LYC x false false) (LYC x false false) K 7 [some (.ref 88), some (.ref 31), some (vi x2), none] [] σ (b_Fixer_listPoints_compass0_7 F self σ x2) := by
  unfold b_Fixer_listPoints_compass0_7
  refine a_iload_n dX1_listPoints_7 rfl ?_
  refine a_aload_n dX1_listPoints_8 rfl ?_
  refine a_getI fl_X1_34 lyC_31 rfl dX1_listPoints_9 (key := 1987) rfl ?_
  refine a_icmp_ge dX1_listPoints_12 rfl (fun _ => ?_) (fun _ => ?_)
  · exact a_vret dX1_listPoints_62
  refine a_iload_n dX1_listPoints_15 rfl ?_
  refine a_iconst dX1_listPoints_16 ?_
  refine a_iadd dX1_listPoints_17 ?_
  refine a_bv fun x3_2 ex3_2 => ?_
  refine a_istore_n (y := x3_2) (L' := [some (.ref 88), some (.ref 31), some (vi x2), some (vi x3_2)]) dX1_listPoints_18 ex3_2 rfl rfl rfl ?_
  exact cl_Fixer_listPoints_compass0_19 F _ hself F _ _ _
set_option maxRecDepth 100000 in
set_option maxHeartbeats 4000000 in
theorem cl_Fixer_listPoints_compass0_7 {K : KX} {x : Bool} (F : Nat) : ∀ (n : Nat) (σ : St) (x2 : Int), WA 3 0 0 cX1_listPoints RX1 4 none (LYC x false false) (LYC x false false) K 7 [some (.ref 88), some (.ref 31), some (vi x2), none] [] σ (l_Fixer_listPoints_compass0_7 F n σ x2)
  | 0, _, _ => a_none
  | n + 1, σ, x2 => cb_Fixer_listPoints_compass0_7 F _ (cl_Fixer_listPoints_compass0_7 F n) σ x2
set_option maxRecDepth 100000 in
set_option maxHeartbeats 4000000 in
theorem c_Fixer_listPoints_compass0 {x : Bool} (F : Nat) (σ : St) : Ct 3 0 0 yX1_listPoints cX1_listPoints 4 none (LYC x false false) (LYC x false false) [.ref 88, .ref 31] σ (f_Fixer_listPoints_compass0 F σ) := by
  unfold f_Fixer_listPoints_compass0
  refine Ct_of (d := 3) (kp := 0) (kd := 0) (own := RX1) (nL := 4) (ret := none) (LY := (LYC x false false)) (LYe := (LYC x false false)) (L := [some (.ref 88), some (.ref 31), none, none]) rfl (by decide +kernel) rfl rfl mf_X1_30.2.2.2.1 rfl fun K => ?_
  refine a_aload_n dX1_listPoints_0 rfl ?_
  refine a_iconst dX1_listPoints_1 ?_
  refine a_putI fl_X1_63 cf_X1 rfl rfl lyC_88 rfl dX1_listPoints_2 (key := 5633) rfl fun σ1 => ?_
  refine a_iconst dX1_listPoints_5 ?_
  refine a_istore_n (L' := [some (.ref 88), some (.ref 31), some (vi 0), none]) dX1_listPoints_6 rfl rfl rfl rfl ?_
  exact cl_Fixer_listPoints_compass0_7 F F _ _
def b_Fixer_touchedTogether_4 (F : Nat) (self : St → Int → Int → Option (Int × St)) (σ : St) (x1 x2 : Int) : Option (Int × St) := gd (rng x2 ∧ rng (gF σ 5633)) (if (gF σ 5633) ≤ x2 then some (x1, σ) else gd (inb x2 28) (bv (iorI x1 (gA σ 92 (Int.toNat x2))) fun t1 => bv (x2 + 1) fun x2_2 => self σ t1 x2_2))
def l_Fixer_touchedTogether_4 (F : Nat) : Nat → St → Int → Int → Option (Int × St)
  | 0 => fun _ _ _ => none
  | n + 1 => fun σ x1 x2 => b_Fixer_touchedTogether_4 F (l_Fixer_touchedTogether_4 F n) σ x1 x2
def f_Fixer_touchedTogether (F : Nat) (σ : St) : Option (Int × St) := l_Fixer_touchedTogether_4 F F σ 0 0
set_option maxRecDepth 100000 in
set_option maxHeartbeats 4000000 in
theorem cb_Fixer_touchedTogether_4 {K : KX} {x : Bool} (F : Nat) (self : St → Int → Int → Option (Int × St)) (hself : ∀ σ x1 x2, WA 1 0 1 cX1_touchedTogether RX1 3 (some .int) (LYC x false false) (LYC x false false) K 4 [some (.ref 88), some (vi x1), some (vi x2)] [] σ (self σ x1 x2)) (σ : St) (x1 x2 : Int) : WA 1 0 1 cX1_touchedTogether RX1 3 (some .int) (LYC x false false) (LYC x false false) K 4 [some (.ref 88), some (vi x1), some (vi x2)] [] σ (b_Fixer_touchedTogether_4 F self σ x1 x2) := by
  unfold b_Fixer_touchedTogether_4
  refine a_iload_n dX1_touchedTogether_4 rfl ?_
  refine a_aload_n dX1_touchedTogether_5 rfl ?_
  refine a_getI fl_X1_63 lyC_88 rfl dX1_touchedTogether_6 (key := 5633) rfl ?_
  refine a_icmp_ge dX1_touchedTogether_9 rfl (fun _ => ?_) (fun _ => ?_)
  · refine a_iload_n dX1_touchedTogether_27 rfl ?_
    exact a_iret dX1_touchedTogether_28
  refine a_iload_n dX1_touchedTogether_12 rfl ?_
  refine a_aload_n dX1_touchedTogether_13 rfl ?_
  refine a_getR (c0 := 92) fl_X1_24 lyC_88 rfl dX1_touchedTogether_14 (key := 5635) rfl ?_
  refine a_iload_n dX1_touchedTogether_17 rfl ?_
  refine a_iald lyC_92 rfl dX1_touchedTogether_18 ?_
  refine a_ior dX1_touchedTogether_19 ?_
  refine a_bvi fun t1 => ?_
  refine a_istore_n (L' := [some (.ref 88), some (vi t1), some (vi x2)]) dX1_touchedTogether_20 rfl rfl rfl rfl ?_
  refine a_bv fun x2_2 ex2_2 => ?_
  refine a_iinc (y := x2_2) (L' := [some (.ref 88), some (vi t1), some (vi x2_2)]) dX1_touchedTogether_21 rfl ex2_2 rfl rfl rfl ?_
  refine a_goto dX1_touchedTogether_24 rfl ?_
  exact hself _ _ _
set_option maxRecDepth 100000 in
set_option maxHeartbeats 4000000 in
theorem cl_Fixer_touchedTogether_4 {K : KX} {x : Bool} (F : Nat) : ∀ (n : Nat) (σ : St) (x1 x2 : Int), WA 1 0 1 cX1_touchedTogether RX1 3 (some .int) (LYC x false false) (LYC x false false) K 4 [some (.ref 88), some (vi x1), some (vi x2)] [] σ (l_Fixer_touchedTogether_4 F n σ x1 x2)
  | 0, _, _, _ => a_none
  | n + 1, σ, x1, x2 => cb_Fixer_touchedTogether_4 F _ (cl_Fixer_touchedTogether_4 F n) σ x1 x2
set_option maxRecDepth 100000 in
set_option maxHeartbeats 4000000 in
theorem c_Fixer_touchedTogether {x : Bool} (F : Nat) (σ : St) : Ct 1 0 1 yX1_touchedTogether cX1_touchedTogether 3 (some .int) (LYC x false false) (LYC x false false) [.ref 88] σ (f_Fixer_touchedTogether F σ) := by
  unfold f_Fixer_touchedTogether
  refine Ct_of (d := 1) (kp := 0) (kd := 1) (own := RX1) (nL := 3) (ret := (some .int)) (LY := (LYC x false false)) (LYe := (LYC x false false)) (L := [some (.ref 88), none, none]) rfl (by decide +kernel) rfl rfl mf_X1_43.2.2.2.1 rfl fun K => ?_
  refine a_iconst dX1_touchedTogether_0 ?_
  refine a_istore_n (L' := [some (.ref 88), some (vi 0), none]) dX1_touchedTogether_1 rfl rfl rfl rfl ?_
  refine a_iconst dX1_touchedTogether_2 ?_
  refine a_istore_n (L' := [some (.ref 88), some (vi 0), some (vi 0)]) dX1_touchedTogether_3 rfl rfl rfl rfl ?_
  exact cl_Fixer_touchedTogether_4 F F _ _ _
def b_Fixer_touchesAll_29 (F : Nat) (rec : St → Int → Int → Int → Int → Option (Int × St)) (self : St → Int → Int → Int → Int → Option (Int × St)) (σ : St) (x1 x3 x4 x5 : Int) : Option (Int × St) := gd (rng x5 ∧ rng (gF σ 5633)) (if (gF σ 5633) ≤ x5 then some (0, σ) else gd (inb x5 28) (bv (iandI (gA σ 92 (Int.toNat x5)) (ixorI x4 (-1))) fun t1 => gd (rng t1) (if t1 = 0 then bv (x5 + 1) fun x5_2 => self σ x1 x3 x4 x5_2 else gd (inb x5 28) (gd (inb x1 8) (bs (sA σ 93 (Int.toNat x1) (gA σ 91 (Int.toNat x5))) fun σ3 => gd (inb x5 28) (bv (iorI x4 (gA σ3 92 (Int.toNat x5))) fun t4 => bnd (rec σ3 (x1 + 1) (x5 + 1) x3 t4) fun r5 σ6 => gd (rng r5) (if r5 = 0 then bv (x5 + 1) fun x5_7 => self σ6 x1 x3 x4 x5_7 else some (1, σ6))))))))
def l_Fixer_touchesAll_29 (F : Nat) (rec : St → Int → Int → Int → Int → Option (Int × St)) : Nat → St → Int → Int → Int → Int → Option (Int × St)
  | 0 => fun _ _ _ _ _ => none
  | n + 1 => fun σ x1 x3 x4 x5 => b_Fixer_touchesAll_29 F rec (l_Fixer_touchesAll_29 F rec n) σ x1 x3 x4 x5
def b_Fixer_touchesAll (F : Nat) (rec : St → Int → Int → Int → Int → Option (Int × St)) (σ : St) (x1 x2 x3 x4 : Int) : Option (Int × St) := gd (rng x1 ∧ rng x3) (if x3 ≤ x1 then gd (rng x4 ∧ rng (gF σ 5637)) (if x4 = (gF σ 5637) then some (1, σ) else some (0, σ)) else gd (rng x1 ∧ rng 8) (if x1 < 8 then l_Fixer_touchesAll_29 F rec F σ x1 x3 x4 x2 else gd (rng x4 ∧ rng (gF σ 5637)) (if x4 = (gF σ 5637) then some (1, σ) else some (0, σ))))
def f_Fixer_touchesAll (F : Nat) : Nat → St → Int → Int → Int → Int → Option (Int × St)
  | 0 => fun _ _ _ _ _ => none
  | dep + 1 => fun σ x1 x2 x3 x4 => b_Fixer_touchesAll F (f_Fixer_touchesAll F dep) σ x1 x2 x3 x4
set_option maxRecDepth 100000 in
set_option maxHeartbeats 4000000 in
theorem cb_Fixer_touchesAll_29 {K : KX} {x : Bool} {dep : Nat} (F : Nat) (rec : St → Int → Int → Int → Int → Option (Int × St)) (hrec : ∀ σ x1 x2 x3 x4, Ct (1 + dep) 0 1 yX1_touchesAll cX1_touchesAll 6 (some .boolean) (LYC x false false) (LYC x false false) [.ref 88, vi x1, vi x2, vi x3, vi x4] σ (rec σ x1 x2 x3 x4)) (self : St → Int → Int → Int → Int → Option (Int × St)) (hself : ∀ σ x1 x3 x4 x5, WA (1 + (dep + 1)) 0 1 cX1_touchesAll RX1 6 (some .boolean) (LYC x false false) (LYC x false false) K 29 [some (.ref 88), some (vi x1), none, some (vi x3), some (vi x4), some (vi x5)] [] σ (self σ x1 x3 x4 x5)) (σ : St) (x1 x3 x4 x5 : Int) : WA (1 + (dep + 1)) 0 1 cX1_touchesAll RX1 6 (some .boolean) (LYC x false false) (LYC x false false) K 29 [some (.ref 88), some (vi x1), none, some (vi x3), some (vi x4), some (vi x5)] [] σ (b_Fixer_touchesAll_29 F rec self σ x1 x3 x4 x5) := by
  unfold b_Fixer_touchesAll_29
  refine a_iload dX1_touchesAll_29 rfl ?_
  refine a_aload_n dX1_touchesAll_31 rfl ?_
  refine a_getI fl_X1_63 lyC_88 rfl dX1_touchesAll_32 (key := 5633) rfl ?_
  refine a_icmp_ge dX1_touchesAll_35 rfl (fun _ => ?_) (fun _ => ?_)
  · refine a_iconst dX1_touchesAll_99 ?_
    exact a_zretc (by decide) dX1_touchesAll_100
  refine a_aload_n dX1_touchesAll_38 rfl ?_
  refine a_getR (c0 := 92) fl_X1_24 lyC_88 rfl dX1_touchesAll_39 (key := 5635) rfl ?_
  refine a_iload dX1_touchesAll_42 rfl ?_
  refine a_iald lyC_92 rfl dX1_touchesAll_44 ?_
  refine a_iload dX1_touchesAll_45 rfl ?_
  refine a_iconst dX1_touchesAll_47 ?_
  refine a_ixor dX1_touchesAll_48 ?_
  refine a_iand dX1_touchesAll_49 ?_
  refine a_bvi fun t1 => ?_
  refine a_if_eq dX1_touchesAll_50 rfl (fun _ => ?_) (fun _ => ?_)
  · refine a_bv fun x5_2 ex5_2 => ?_
    refine a_iinc (y := x5_2) (L' := [some (.ref 88), some (vi x1), none, some (vi x3), some (vi x4), some (vi x5_2)]) dX1_touchesAll_93 rfl ex5_2 rfl rfl rfl ?_
    refine a_goto dX1_touchesAll_96 rfl ?_
    exact hself _ _ _ _ _
  refine a_aload_n dX1_touchesAll_53 rfl ?_
  refine a_getR (c0 := 93) fl_X1_27 lyC_88 rfl dX1_touchesAll_54 (key := 5636) rfl ?_
  refine a_iload_n dX1_touchesAll_57 rfl ?_
  refine a_aload_n dX1_touchesAll_58 rfl ?_
  refine a_getR (c0 := 91) fl_X1_20 lyC_88 rfl dX1_touchesAll_59 (key := 5634) rfl ?_
  refine a_iload dX1_touchesAll_62 rfl ?_
  refine a_iald lyC_91 rfl dX1_touchesAll_64 ?_
  refine a_iast lyC_93 rfl dX1_touchesAll_65 fun σ3 => ?_
  refine a_aload_n dX1_touchesAll_66 rfl ?_
  refine a_iload_n dX1_touchesAll_67 rfl ?_
  refine a_iconst dX1_touchesAll_68 ?_
  refine a_iadd dX1_touchesAll_69 ?_
  refine a_iload dX1_touchesAll_70 rfl ?_
  refine a_iconst dX1_touchesAll_72 ?_
  refine a_iadd dX1_touchesAll_73 ?_
  refine a_iload_n dX1_touchesAll_74 rfl ?_
  refine a_iload dX1_touchesAll_75 rfl ?_
  refine a_aload_n dX1_touchesAll_77 rfl ?_
  refine a_getR (c0 := 92) fl_X1_24 lyC_88 rfl dX1_touchesAll_78 (key := 5635) rfl ?_
  refine a_iload dX1_touchesAll_81 rfl ?_
  refine a_iald lyC_92 rfl dX1_touchesAll_83 ?_
  refine a_ior dX1_touchesAll_84 ?_
  refine a_bvi fun t4 => ?_
  refine a_callVi (as := [vi (x1 + 1), vi (x5 + 1), vi x3, vi t4]) mf_X1_47 lyC_88 rfl (hrec _ _ _ _ _) LYsame.rf dX1_touchesAll_85 (Nat.ble_eq_true_of_le (by omega)) rfl rfl rfl rfl rfl (Or.inl rfl) fun r5 σ6 => ?_
  refine a_if_eq dX1_touchesAll_88 rfl (fun _ => ?_) (fun _ => ?_)
  · refine a_bv fun x5_7 ex5_7 => ?_
    refine a_iinc (y := x5_7) (L' := [some (.ref 88), some (vi x1), none, some (vi x3), some (vi x4), some (vi x5_7)]) dX1_touchesAll_93 rfl ex5_7 rfl rfl rfl ?_
    refine a_goto dX1_touchesAll_96 rfl ?_
    exact hself _ _ _ _ _
  refine a_iconst dX1_touchesAll_91 ?_
  exact a_zretc (by decide) dX1_touchesAll_92
set_option maxRecDepth 100000 in
set_option maxHeartbeats 4000000 in
theorem cl_Fixer_touchesAll_29 {K : KX} {x : Bool} {dep : Nat} (F : Nat) (rec : St → Int → Int → Int → Int → Option (Int × St)) (hrec : ∀ σ x1 x2 x3 x4, Ct (1 + dep) 0 1 yX1_touchesAll cX1_touchesAll 6 (some .boolean) (LYC x false false) (LYC x false false) [.ref 88, vi x1, vi x2, vi x3, vi x4] σ (rec σ x1 x2 x3 x4)) : ∀ (n : Nat) (σ : St) (x1 x3 x4 x5 : Int), WA (1 + (dep + 1)) 0 1 cX1_touchesAll RX1 6 (some .boolean) (LYC x false false) (LYC x false false) K 29 [some (.ref 88), some (vi x1), none, some (vi x3), some (vi x4), some (vi x5)] [] σ (l_Fixer_touchesAll_29 F rec n σ x1 x3 x4 x5)
  | 0, _, _, _, _, _ => a_none
  | n + 1, σ, x1, x3, x4, x5 => cb_Fixer_touchesAll_29 F rec hrec _ (cl_Fixer_touchesAll_29 F rec hrec n) σ x1 x3 x4 x5
set_option maxRecDepth 100000 in
set_option maxHeartbeats 4000000 in
theorem cr_Fixer_touchesAll {x : Bool} {dep : Nat} (F : Nat) (rec : St → Int → Int → Int → Int → Option (Int × St)) (hrec : ∀ σ x1 x2 x3 x4, Ct (1 + dep) 0 1 yX1_touchesAll cX1_touchesAll 6 (some .boolean) (LYC x false false) (LYC x false false) [.ref 88, vi x1, vi x2, vi x3, vi x4] σ (rec σ x1 x2 x3 x4)) (σ : St) (x1 x2 x3 x4 : Int) : Ct (1 + (dep + 1)) 0 1 yX1_touchesAll cX1_touchesAll 6 (some .boolean) (LYC x false false) (LYC x false false) [.ref 88, vi x1, vi x2, vi x3, vi x4] σ (b_Fixer_touchesAll F rec σ x1 x2 x3 x4) := by
  unfold b_Fixer_touchesAll
  refine Ct_of (d := (1 + (dep + 1))) (kp := 0) (kd := 1) (own := RX1) (nL := 6) (ret := (some .boolean)) (LY := (LYC x false false)) (LYe := (LYC x false false)) (L := [some (.ref 88), some (vi x1), some (vi x2), some (vi x3), some (vi x4), none]) rfl (by decide +kernel) rfl rfl mf_X1_47.2.2.2.1 rfl fun K => ?_
  refine a_iload_n dX1_touchesAll_0 rfl ?_
  refine a_iload_n dX1_touchesAll_1 rfl ?_
  refine a_icmp_ge dX1_touchesAll_2 rfl (fun _ => ?_) (fun _ => ?_)
  · refine a_iload dX1_touchesAll_11 rfl ?_
    refine a_aload_n dX1_touchesAll_13 rfl ?_
    refine a_getI fl_X1_40 lyC_88 rfl dX1_touchesAll_14 (key := 5637) rfl ?_
    refine a_icmp_ne dX1_touchesAll_17 rfl (fun _ => ?_) (fun _ => ?_)
    · refine a_iconst dX1_touchesAll_24 ?_
      exact a_zretc (by decide) dX1_touchesAll_25
    refine a_iconst dX1_touchesAll_20 ?_
    refine a_goto dX1_touchesAll_21 rfl ?_
    exact a_zretc (by decide) dX1_touchesAll_25
  refine a_iload_n dX1_touchesAll_5 rfl ?_
  refine a_bipush dX1_touchesAll_6 bi_8 ?_
  refine a_icmp_lt dX1_touchesAll_8 rfl (fun _ => ?_) (fun _ => ?_)
  · refine a_iload_n dX1_touchesAll_26 rfl ?_
    refine a_istore (L' := [some (.ref 88), some (vi x1), some (vi x2), some (vi x3), some (vi x4), some (vi x2)]) dX1_touchesAll_27 rfl rfl rfl rfl ?_
    exact a_L (lsub_get (A := [some (.ref 88), some (vi x1), none, some (vi x3), some (vi x4), some (vi x2)]) ⟨rfl, ⟨rfl, ⟨rfl, ⟨rfl, ⟨rfl, trivial⟩⟩⟩⟩⟩) (cl_Fixer_touchesAll_29 F rec hrec F _ _ _ _ _)
  refine a_iload dX1_touchesAll_11 rfl ?_
  refine a_aload_n dX1_touchesAll_13 rfl ?_
  refine a_getI fl_X1_40 lyC_88 rfl dX1_touchesAll_14 (key := 5637) rfl ?_
  refine a_icmp_ne dX1_touchesAll_17 rfl (fun _ => ?_) (fun _ => ?_)
  · refine a_iconst dX1_touchesAll_24 ?_
    exact a_zretc (by decide) dX1_touchesAll_25
  refine a_iconst dX1_touchesAll_20 ?_
  refine a_goto dX1_touchesAll_21 rfl ?_
  exact a_zretc (by decide) dX1_touchesAll_25
set_option maxRecDepth 100000 in
set_option maxHeartbeats 4000000 in
theorem c_Fixer_touchesAll {x : Bool} (F : Nat) : ∀ (dep : Nat) (σ : St) (x1 x2 x3 x4 : Int), Ct (1 + dep) 0 1 yX1_touchesAll cX1_touchesAll 6 (some .boolean) (LYC x false false) (LYC x false false) [.ref 88, vi x1, vi x2, vi x3, vi x4] σ (f_Fixer_touchesAll F dep σ x1 x2 x3 x4)
  | 0, _, _, _, _, _ => fun _ _ h => by cases h
  | dep + 1, σ, x1, x2, x3, x4 => cr_Fixer_touchesAll F _ (c_Fixer_touchesAll F dep) σ x1 x2 x3 x4
def b_Fixer_find_compass0_32 (F : Nat) (self : St → Int → Option (Int × St)) (σ : St) (x2 : Int) : Option (Int × St) := gd (rng x2 ∧ rng 8) (if (8 : Int) < x2 then some ((-1), σ) else bnd (f_Fixer_touchesAll F 12 σ 0 0 x2 0) fun r7 σ8 => gd (rng r7) (if r7 = 0 then bv (x2 + 1) fun x2_9 => self σ8 x2_9 else bs (sF σ8 5697 x2) fun σ10 => gd (0 ≤ (0 : Int) ∧ 0 ≤ (0 : Int) ∧ 0 ≤ x2 ∧ 0 + x2 ≤ 8 ∧ 0 + x2 ≤ 8) (bs (cpA σ10 93 (Int.toNat 0) 90 (Int.toNat 0) (Int.toNat x2)) fun σ11 => some (x2, σ11))))
def l_Fixer_find_compass0_32 (F : Nat) : Nat → St → Int → Option (Int × St)
  | 0 => fun _ _ => none
  | n + 1 => fun σ x2 => b_Fixer_find_compass0_32 F (l_Fixer_find_compass0_32 F n) σ x2
def f_Fixer_find_compass0 (F : Nat) (σ : St) : Option (Int × St) := bnd (f_Fixer_listPoints_compass0 F σ) fun r1 σ2 => gd (sh5 (gF σ2 1987)) (bv (1 * 2 ^ (Int.toNat (gF σ2 1987))) fun t3 => bs (sF σ2 5637 (t3 - 1)) fun σ4 => bnd (f_Fixer_touchedTogether F σ4) fun r5 σ6 => gd (rng r5 ∧ rng (gF σ6 5637)) (if r5 = (gF σ6 5637) then l_Fixer_find_compass0_32 F F σ6 0 else some ((-1), σ6)))
set_option maxRecDepth 100000 in
set_option maxHeartbeats 4000000 in
theorem cb_Fixer_find_compass0_32 {K : KX} {x : Bool} (F : Nat) (self : St → Int → Option (Int × St)) (hself : ∀ σ x2, WA 14 0 1 cX1_find RX1 3 (some .int) (LYC x false false) (LYC x false false) K 32 [some (.ref 88), none, some (vi x2)] [] σ (self σ x2)) (σ : St) (x2 : Int) : WA 14 0 1 cX1_find RX1 3 (some .int) (LYC x false false) (LYC x false false) K 32 [some (.ref 88), none, some (vi x2)] [] σ (b_Fixer_find_compass0_32 F self σ x2) := by
  unfold b_Fixer_find_compass0_32
  refine a_iload_n dX1_find_32 rfl ?_
  refine a_bipush dX1_find_33 bi_8 ?_
  refine a_icmp_gt dX1_find_35 rfl (fun _ => ?_) (fun _ => ?_)
  · refine a_iconst dX1_find_82 ?_
    exact a_iret dX1_find_83
  refine a_aload_n dX1_find_38 rfl ?_
  refine a_iconst dX1_find_39 ?_
  refine a_iconst dX1_find_40 ?_
  refine a_iload_n dX1_find_41 rfl ?_
  refine a_iconst dX1_find_42 ?_
  refine a_callVi (as := [vi 0, vi 0, vi x2, vi 0]) mf_X1_47 lyC_88 rfl (c_Fixer_touchesAll F 12 _ _ _ _ _) LYsame.rf dX1_find_43 rfl rfl rfl rfl rfl rfl (Or.inl rfl) fun r7 σ8 => ?_
  refine a_if_eq dX1_find_46 rfl (fun _ => ?_) (fun _ => ?_)
  · refine a_bv fun x2_9 ex2_9 => ?_
    refine a_iinc (y := x2_9) (L' := [some (.ref 88), none, some (vi x2_9)]) dX1_find_76 rfl ex2_9 rfl rfl rfl ?_
    refine a_goto dX1_find_79 rfl ?_
    exact hself _ _
  refine a_aload_n dX1_find_49 rfl ?_
  refine a_getR (c0 := 89) fl_X1_14 lyC_88 rfl dX1_find_50 (key := 5632) rfl ?_
  refine a_iload_n dX1_find_53 rfl ?_
  refine a_putI fl_X1_51 cf_X9 rfl rfl lyC_89 rfl dX1_find_54 (key := 5697) rfl fun σ10 => ?_
  refine a_aload_n dX1_find_57 rfl ?_
  refine a_getR (c0 := 93) fl_X1_27 lyC_88 rfl dX1_find_58 (key := 5636) rfl ?_
  refine a_iconst dX1_find_61 ?_
  refine a_aload_n dX1_find_62 rfl ?_
  refine a_getR (c0 := 89) fl_X1_14 lyC_88 rfl dX1_find_63 (key := 5632) rfl ?_
  refine a_getR (c0 := 90) fl_X1_54 lyC_89 rfl dX1_find_66 (key := 5696) rfl ?_
  refine a_iconst dX1_find_69 ?_
  refine a_iload_n dX1_find_70 rfl ?_
  refine a_acopy ac_X1_57 lyC_93 lyC_90 rfl rfl rfl rfl dX1_find_71 fun σ11 => ?_
  refine a_iload_n dX1_find_74 rfl ?_
  exact a_iret dX1_find_75
set_option maxRecDepth 100000 in
set_option maxHeartbeats 4000000 in
theorem cl_Fixer_find_compass0_32 {K : KX} {x : Bool} (F : Nat) : ∀ (n : Nat) (σ : St) (x2 : Int), WA 14 0 1 cX1_find RX1 3 (some .int) (LYC x false false) (LYC x false false) K 32 [some (.ref 88), none, some (vi x2)] [] σ (l_Fixer_find_compass0_32 F n σ x2)
  | 0, _, _ => a_none
  | n + 1, σ, x2 => cb_Fixer_find_compass0_32 F _ (cl_Fixer_find_compass0_32 F n) σ x2
set_option maxRecDepth 100000 in
set_option maxHeartbeats 4000000 in
theorem c_Fixer_find_compass0 {x : Bool} (F : Nat) (σ : St) : Ct 14 0 1 yX1_find cX1_find 3 (some .int) (LYC x false false) (LYC x false false) [.ref 88, .ref 31] σ (f_Fixer_find_compass0 F σ) := by
  unfold f_Fixer_find_compass0
  refine Ct_of (d := 14) (kp := 0) (kd := 1) (own := RX1) (nL := 3) (ret := (some .int)) (LY := (LYC x false false)) (LYe := (LYC x false false)) (L := [some (.ref 88), some (.ref 31), none]) rfl (by decide +kernel) rfl rfl mf_X10_338.2.2.2.1 rfl fun K => ?_
  refine a_aload_n dX1_find_0 rfl ?_
  refine a_aload_n dX1_find_1 rfl ?_
  refine a_callVv (as := [.ref 31]) mf_X1_30 lyC_88 rfl (c_Fixer_listPoints_compass0 F _) LYsame.rf dX1_find_2 rfl rfl rfl rfl rfl rfl (Or.inl rfl) fun r1 σ2 => ?_
  refine a_aload_n dX1_find_5 rfl ?_
  refine a_iconst dX1_find_6 ?_
  refine a_aload_n dX1_find_7 rfl ?_
  refine a_getI fl_X1_34 lyC_31 rfl dX1_find_8 (key := 1987) rfl ?_
  refine a_ishl dX1_find_11 (fun _ => ?_)
  refine a_bvi fun t3 => ?_
  refine a_iconst dX1_find_12 ?_
  refine a_isub dX1_find_13 ?_
  refine a_putI fl_X1_40 cf_X1 rfl rfl lyC_88 rfl dX1_find_14 (key := 5637) rfl fun σ4 => ?_
  refine a_aload_n dX1_find_17 rfl ?_
  refine a_callVi (as := []) mf_X1_43 lyC_88 rfl (c_Fixer_touchedTogether F _) LYsame.rf dX1_find_18 rfl rfl rfl rfl rfl rfl (Or.inl rfl) fun r5 σ6 => ?_
  refine a_aload_n dX1_find_21 rfl ?_
  refine a_getI fl_X1_40 lyC_88 rfl dX1_find_22 (key := 5637) rfl ?_
  refine a_icmp_eq dX1_find_25 rfl (fun _ => ?_) (fun _ => ?_)
  · refine a_iconst dX1_find_30 ?_
    refine a_istore_n (L' := [some (.ref 88), some (.ref 31), some (vi 0)]) dX1_find_31 rfl rfl rfl rfl ?_
    exact a_L (lsub_get (A := [some (.ref 88), none, some (vi 0)]) ⟨rfl, ⟨rfl, trivial⟩⟩) (cl_Fixer_find_compass0_32 F F _ _)
  refine a_iconst dX1_find_28 ?_
  exact a_iret dX1_find_29
def f_W_fix (F : Nat) (σ : St) : Option (Int × St) := bnd (f_Fixer_find_compass0 F σ) fun r1 σ2 => some (r1, σ2)
set_option maxRecDepth 100000 in
set_option maxHeartbeats 4000000 in
theorem c_W_fix {x : Bool} (F : Nat) (σ : St) : Ct 15 0 1 yX10_fix cX10_fix 1 (some .int) (LYC x false false) (LYC x false false) [.ref 0] σ (f_W_fix F σ) := by
  unfold f_W_fix
  refine Ct_of (d := 15) (kp := 0) (kd := 1) (own := RX10) (nL := 1) (ret := (some .int)) (LY := (LYC x false false)) (LYe := (LYC x false false)) (L := [some (.ref 0)]) rfl (by decide +kernel) rfl rfl mf_L_181.2.2.2.1 rfl fun K => ?_
  refine a_aload_n dX10_fix_0 rfl ?_
  refine a_getR (c0 := 88) fl_X10_65 lyC_0 rfl dX10_fix_1 (key := 9) rfl ?_
  refine a_aload_n dX10_fix_4 rfl ?_
  refine a_getR (c0 := 79) fl_X10_26 lyC_0 rfl dX10_fix_5 (key := 2) rfl ?_
  refine a_getR (c0 := 31) fl_X10_316 lyC_79 rfl dX10_fix_8 (key := 5057) rfl ?_
  refine a_callVi (as := [.ref 31]) mf_X10_338 lyC_88 rfl (c_Fixer_find_compass0 F _) LYsame.rf dX10_fix_11 rfl rfl rfl rfl rfl rfl (Or.inl rfl) fun r1 σ2 => ?_
  exact a_iret dX10_fix_14
def f_Told_at_told (F : Nat) (σ : St) (x1 : Int) : Option (Int × St) := gd (rng x1) (if x1 < 0 then some ((-1), σ) else gd (rng x1 ∧ rng (gF σ 5697)) (if (gF σ 5697) ≤ x1 then some ((-1), σ) else gd (rng x1 ∧ rng 8) (if (8 : Int) ≤ x1 then some ((-1), σ) else gd (inb x1 8) (some ((gA σ 90 (Int.toNat x1)), σ)))))
set_option maxRecDepth 100000 in
set_option maxHeartbeats 4000000 in
theorem c_Told_at_told {x : Bool} (F : Nat) (σ : St) (x1 : Int) : Ct 1 0 1 yX9_at cX9_at 2 (some .int) (LYC x false false) (LYC x false false) [.ref 89, vi x1] σ (f_Told_at_told F σ x1) := by
  unfold f_Told_at_told
  refine Ct_of (d := 1) (kp := 0) (kd := 1) (own := RX9) (nL := 2) (ret := (some .int)) (LY := (LYC x false false)) (LYe := (LYC x false false)) (L := [some (.ref 89), some (vi x1)]) rfl (by decide +kernel) rfl rfl mf_X10_234.2.2.2.1 rfl fun K => ?_
  refine a_iload_n dX9_at_0 rfl ?_
  refine a_if_lt dX9_at_1 rfl (fun _ => ?_) (fun _ => ?_)
  · refine a_iconst dX9_at_30 ?_
    exact a_iret dX9_at_31
  refine a_iload_n dX9_at_4 rfl ?_
  refine a_aload_n dX9_at_5 rfl ?_
  refine a_getI fl_X9_15 lyC_89 rfl dX9_at_6 (key := 5697) rfl ?_
  refine a_icmp_ge dX9_at_9 rfl (fun _ => ?_) (fun _ => ?_)
  · refine a_iconst dX9_at_30 ?_
    exact a_iret dX9_at_31
  refine a_iload_n dX9_at_12 rfl ?_
  refine a_aload_n dX9_at_13 rfl ?_
  refine a_getR (c0 := 90) fl_X9_9 lyC_89 rfl dX9_at_14 (key := 5696) rfl ?_
  refine a_alen lyC_90 dX9_at_17 ?_
  refine a_icmp_ge dX9_at_18 rfl (fun _ => ?_) (fun _ => ?_)
  · refine a_iconst dX9_at_30 ?_
    exact a_iret dX9_at_31
  refine a_aload_n dX9_at_21 rfl ?_
  refine a_getR (c0 := 90) fl_X9_9 lyC_89 rfl dX9_at_22 (key := 5696) rfl ?_
  refine a_iload_n dX9_at_25 rfl ?_
  refine a_iald lyC_90 rfl dX9_at_26 ?_
  refine a_goto dX9_at_27 rfl ?_
  exact a_iret dX9_at_31
def f_W_fixAt (F : Nat) (σ : St) (x1 : Int) : Option (Int × St) := bnd (f_Told_at_told F σ x1) fun r1 σ2 => some (r1, σ2)
set_option maxRecDepth 100000 in
set_option maxHeartbeats 4000000 in
theorem c_W_fixAt {x : Bool} (F : Nat) (σ : St) (x1 : Int) : Ct 2 0 1 yX10_fixAt cX10_fixAt 2 (some .int) (LYC x false false) (LYC x false false) [.ref 0, vi x1] σ (f_W_fixAt F σ x1) := by
  unfold f_W_fixAt
  refine Ct_of (d := 2) (kp := 0) (kd := 1) (own := RX10) (nL := 2) (ret := (some .int)) (LY := (LYC x false false)) (LYe := (LYC x false false)) (L := [some (.ref 0), some (vi x1)]) rfl (by decide +kernel) rfl rfl mf_L_185.2.2.2.1 rfl fun K => ?_
  refine a_aload_n dX10_fixAt_0 rfl ?_
  refine a_getR (c0 := 88) fl_X10_65 lyC_0 rfl dX10_fixAt_1 (key := 9) rfl ?_
  refine a_getR (c0 := 89) fl_X10_341 lyC_88 rfl dX10_fixAt_4 (key := 5632) rfl ?_
  refine a_iload_n dX10_fixAt_7 rfl ?_
  refine a_callVi (as := [vi x1]) mf_X10_234 lyC_89 rfl (c_Told_at_told F _ _) LYsame.rf dX10_fixAt_8 rfl rfl rfl rfl rfl rfl (Or.inl rfl) fun r1 σ2 => ?_
  exact a_iret dX10_fixAt_11
def f_W_through (F : Nat) (σ : St) (x1 x2 : Int) : Option (Int × St) := bnd (f_Compass_meet_compass0 F σ x1 x2) fun r1 σ2 => gd (rng r1) (if r1 = 0 then some ((-1), σ2) else bnd (f_Compass_throughMeeting_compass0 F σ2) fun r3 σ4 => some (r3, σ4))
set_option maxRecDepth 100000 in
set_option maxHeartbeats 4000000 in
theorem c_W_through {x : Bool} (F : Nat) (σ : St) (x1 x2 : Int) : Ct 3 0 1 yX10_through cX10_through 3 (some .int) (LYC x false false) (LYC x false false) [.ref 0, vi x1, vi x2] σ (f_W_through F σ x1 x2) := by
  unfold f_W_through
  refine Ct_of (d := 3) (kp := 0) (kd := 1) (own := RX10) (nL := 3) (ret := (some .int)) (LY := (LYC x false false)) (LYe := (LYC x false false)) (L := [some (.ref 0), some (vi x1), some (vi x2)]) rfl (by decide +kernel) rfl rfl mf_L_189.2.2.2.1 rfl fun K => ?_
  refine a_aload_n dX10_through_0 rfl ?_
  refine a_getR (c0 := 79) fl_X10_26 lyC_0 rfl dX10_through_1 (key := 2) rfl ?_
  refine a_getR (c0 := 31) fl_X10_316 lyC_79 rfl dX10_through_4 (key := 5057) rfl ?_
  refine a_iload_n dX10_through_7 rfl ?_
  refine a_iload_n dX10_through_8 rfl ?_
  refine a_callVi (as := [vi x1, vi x2]) mf_X10_320 lyC_31 rfl (c_Compass_meet_compass0 F _ _ _) LYsame.rf dX10_through_9 rfl rfl rfl rfl rfl rfl (Or.inl rfl) fun r1 σ2 => ?_
  refine a_if_eq dX10_through_12 rfl (fun _ => ?_) (fun _ => ?_)
  · refine a_iconst dX10_through_28 ?_
    exact a_iret dX10_through_29
  refine a_aload_n dX10_through_15 rfl ?_
  refine a_getR (c0 := 79) fl_X10_26 lyC_0 rfl dX10_through_16 (key := 2) rfl ?_
  refine a_getR (c0 := 31) fl_X10_316 lyC_79 rfl dX10_through_19 (key := 5057) rfl ?_
  refine a_callVi (as := []) mf_X10_344 lyC_31 rfl (c_Compass_throughMeeting_compass0 F _) LYsame.rf dX10_through_22 rfl rfl rfl rfl rfl rfl (Or.inl rfl) fun r3 σ4 => ?_
  refine a_goto dX10_through_25 rfl ?_
  exact a_iret dX10_through_29
def f_Lattice_copy_lattice2_lattice0 (F : Nat) (σ : St) : Option (Int × St) := bs (sF σ 1600 (gF σ 1472)) fun σ1 => bs (sF σ1 1601 (gF σ1 1473)) fun σ2 => bs (sF σ2 1602 (gF σ2 1474)) fun σ3 => gd (0 ≤ (0 : Int) ∧ 0 ≤ (0 : Int) ∧ 0 ≤ (60 : Int) ∧ 0 + 60 ≤ 60 ∧ 0 + 60 ≤ 60) (bs (cpA σ3 27 (Int.toNat 0) 29 (Int.toNat 0) (Int.toNat 60)) fun σ4 => some (0, σ4))
set_option maxRecDepth 100000 in
set_option maxHeartbeats 4000000 in
theorem c_Lattice_copy_lattice2_lattice0 {x : Bool} (F : Nat) (σ : St) : Ct 1 0 0 yX2_copy cX2_copy 2 none (LYC x false false) (LYC x false false) [.ref 25, .ref 23] σ (f_Lattice_copy_lattice2_lattice0 F σ) := by
  unfold f_Lattice_copy_lattice2_lattice0
  refine Ct_of (d := 1) (kp := 0) (kd := 0) (own := RX2) (nL := 2) (ret := none) (LY := (LYC x false false)) (LYe := (LYC x false false)) (L := [some (.ref 25), some (.ref 23)]) rfl (by decide +kernel) rfl rfl mf_X7_60.2.2.2.1 rfl fun K => ?_
  refine a_aload_n dX2_copy_0 rfl ?_
  refine a_aload_n dX2_copy_1 rfl ?_
  refine a_getI fl_X2_19 lyC_23 rfl dX2_copy_2 (key := 1472) rfl ?_
  refine a_putI fl_X2_19 cf_X2 rfl rfl lyC_25 rfl dX2_copy_5 (key := 1600) rfl fun σ1 => ?_
  refine a_aload_n dX2_copy_8 rfl ?_
  refine a_aload_n dX2_copy_9 rfl ?_
  refine a_getI fl_X2_27 lyC_23 rfl dX2_copy_10 (key := 1473) rfl ?_
  refine a_putI fl_X2_27 cf_X2 rfl rfl lyC_25 rfl dX2_copy_13 (key := 1601) rfl fun σ2 => ?_
  refine a_aload_n dX2_copy_16 rfl ?_
  refine a_aload_n dX2_copy_17 rfl ?_
  refine a_getI fl_X2_34 lyC_23 rfl dX2_copy_18 (key := 1474) rfl ?_
  refine a_putI fl_X2_34 cf_X2 rfl rfl lyC_25 rfl dX2_copy_21 (key := 1602) rfl fun σ3 => ?_
  refine a_aload_n dX2_copy_24 rfl ?_
  refine a_getR (c0 := 27) fl_X2_9 lyC_23 rfl dX2_copy_25 (key := 1475) rfl ?_
  refine a_iconst dX2_copy_28 ?_
  refine a_aload_n dX2_copy_29 rfl ?_
  refine a_getR (c0 := 29) fl_X2_9 lyC_25 rfl dX2_copy_30 (key := 1603) rfl ?_
  refine a_iconst dX2_copy_33 ?_
  refine a_bipush dX2_copy_34 bi_60 ?_
  refine a_acopy ac_X2_41 lyC_27 lyC_29 rfl rfl rfl rfl dX2_copy_36 fun σ4 => ?_
  exact a_vret dX2_copy_39
def f_Compass_copy_compass2_compass0 (F : Nat) (σ : St) : Option (Int × St) := bs (sF σ 2112 (gF σ 1984)) fun σ1 => gd (0 ≤ (0 : Int) ∧ 0 ≤ (0 : Int) ∧ 0 ≤ (4 : Int) ∧ 0 + 4 ≤ 4 ∧ 0 + 4 ≤ 4) (bs (cpA σ1 35 (Int.toNat 0) 37 (Int.toNat 0) (Int.toNat 4)) fun σ2 => gd (0 ≤ (0 : Int) ∧ 0 ≤ (0 : Int) ∧ 0 ≤ (4 : Int) ∧ 0 + 4 ≤ 4 ∧ 0 + 4 ≤ 4) (bs (cpA σ2 39 (Int.toNat 0) 41 (Int.toNat 0) (Int.toNat 4)) fun σ3 => bs (sF σ3 2115 (gF σ3 1987)) fun σ4 => gd (0 ≤ (0 : Int) ∧ 0 ≤ (0 : Int) ∧ 0 ≤ (8 : Int) ∧ 0 + 8 ≤ 8 ∧ 0 + 8 ≤ 8) (bs (cpA σ4 43 (Int.toNat 0) 45 (Int.toNat 0) (Int.toNat 8)) fun σ5 => gd (0 ≤ (0 : Int) ∧ 0 ≤ (0 : Int) ∧ 0 ≤ (8 : Int) ∧ 0 + 8 ≤ 8 ∧ 0 + 8 ≤ 8) (bs (cpA σ5 47 (Int.toNat 0) 49 (Int.toNat 0) (Int.toNat 8)) fun σ6 => gd (0 ≤ (0 : Int) ∧ 0 ≤ (0 : Int) ∧ 0 ≤ (8 : Int) ∧ 0 + 8 ≤ 8 ∧ 0 + 8 ≤ 8) (bs (cpA σ6 51 (Int.toNat 0) 53 (Int.toNat 0) (Int.toNat 8)) fun σ7 => some (0, σ7))))))
set_option maxRecDepth 100000 in
set_option maxHeartbeats 4000000 in
theorem c_Compass_copy_compass2_compass0 {x : Bool} (F : Nat) (σ : St) : Ct 1 0 0 yX0_copy cX0_copy 2 none (LYC x false false) (LYC x false false) [.ref 33, .ref 31] σ (f_Compass_copy_compass2_compass0 F σ) := by
  unfold f_Compass_copy_compass2_compass0
  refine Ct_of (d := 1) (kp := 0) (kd := 0) (own := RX0) (nL := 2) (ret := none) (LY := (LYC x false false)) (LYe := (LYC x false false)) (L := [some (.ref 33), some (.ref 31)]) rfl (by decide +kernel) rfl rfl mf_X7_64.2.2.2.1 rfl fun K => ?_
  refine a_aload_n dX0_copy_0 rfl ?_
  refine a_aload_n dX0_copy_1 rfl ?_
  refine a_getI fl_X0_31 lyC_31 rfl dX0_copy_2 (key := 1984) rfl ?_
  refine a_putI fl_X0_31 cf_X0 rfl rfl lyC_33 rfl dX0_copy_5 (key := 2112) rfl fun σ1 => ?_
  refine a_aload_n dX0_copy_8 rfl ?_
  refine a_getR (c0 := 35) fl_X0_9 lyC_31 rfl dX0_copy_9 (key := 1985) rfl ?_
  refine a_iconst dX0_copy_12 ?_
  refine a_aload_n dX0_copy_13 rfl ?_
  refine a_getR (c0 := 37) fl_X0_9 lyC_33 rfl dX0_copy_14 (key := 2113) rfl ?_
  refine a_iconst dX0_copy_17 ?_
  refine a_iconst dX0_copy_18 ?_
  refine a_acopy ac_X0_35 lyC_35 lyC_37 rfl rfl rfl rfl dX0_copy_19 fun σ2 => ?_
  refine a_aload_n dX0_copy_22 rfl ?_
  refine a_getR (c0 := 39) fl_X0_15 lyC_31 rfl dX0_copy_23 (key := 1986) rfl ?_
  refine a_iconst dX0_copy_26 ?_
  refine a_aload_n dX0_copy_27 rfl ?_
  refine a_getR (c0 := 41) fl_X0_15 lyC_33 rfl dX0_copy_28 (key := 2114) rfl ?_
  refine a_iconst dX0_copy_31 ?_
  refine a_iconst dX0_copy_32 ?_
  refine a_acopy ac_X0_35 lyC_39 lyC_41 rfl rfl rfl rfl dX0_copy_33 fun σ3 => ?_
  refine a_aload_n dX0_copy_36 rfl ?_
  refine a_aload_n dX0_copy_37 rfl ?_
  refine a_getI fl_X0_41 lyC_31 rfl dX0_copy_38 (key := 1987) rfl ?_
  refine a_putI fl_X0_41 cf_X0 rfl rfl lyC_33 rfl dX0_copy_41 (key := 2115) rfl fun σ4 => ?_
  refine a_aload_n dX0_copy_44 rfl ?_
  refine a_getR (c0 := 43) fl_X0_18 lyC_31 rfl dX0_copy_45 (key := 1988) rfl ?_
  refine a_iconst dX0_copy_48 ?_
  refine a_aload_n dX0_copy_49 rfl ?_
  refine a_getR (c0 := 45) fl_X0_18 lyC_33 rfl dX0_copy_50 (key := 2116) rfl ?_
  refine a_iconst dX0_copy_53 ?_
  refine a_bipush dX0_copy_54 bi_8 ?_
  refine a_acopy ac_X0_35 lyC_43 lyC_45 rfl rfl rfl rfl dX0_copy_56 fun σ5 => ?_
  refine a_aload_n dX0_copy_59 rfl ?_
  refine a_getR (c0 := 47) fl_X0_21 lyC_31 rfl dX0_copy_60 (key := 1989) rfl ?_
  refine a_iconst dX0_copy_63 ?_
  refine a_aload_n dX0_copy_64 rfl ?_
  refine a_getR (c0 := 49) fl_X0_21 lyC_33 rfl dX0_copy_65 (key := 2117) rfl ?_
  refine a_iconst dX0_copy_68 ?_
  refine a_bipush dX0_copy_69 bi_8 ?_
  refine a_acopy ac_X0_35 lyC_47 lyC_49 rfl rfl rfl rfl dX0_copy_71 fun σ6 => ?_
  refine a_aload_n dX0_copy_74 rfl ?_
  refine a_getR (c0 := 51) fl_X0_24 lyC_31 rfl dX0_copy_75 (key := 1990) rfl ?_
  refine a_iconst dX0_copy_78 ?_
  refine a_aload_n dX0_copy_79 rfl ?_
  refine a_getR (c0 := 53) fl_X0_24 lyC_33 rfl dX0_copy_80 (key := 2118) rfl ?_
  refine a_iconst dX0_copy_83 ?_
  refine a_bipush dX0_copy_84 bi_8 ?_
  refine a_acopy ac_X0_35 lyC_51 lyC_53 rfl rfl rfl rfl dX0_copy_86 fun σ7 => ?_
  exact a_vret dX0_copy_89
def f_Scene_copy_scene2_scene0 (F : Nat) (σ : St) : Option (Int × St) := bnd (f_Lattice_copy_lattice2_lattice0 F σ) fun r1 σ2 => bnd (f_Compass_copy_compass2_compass0 F σ2) fun r3 σ4 => bs (sF σ4 5186 (gF σ4 5058)) fun σ5 => bs (sF σ5 5187 (gF σ5 5059)) fun σ6 => gd (0 ≤ (0 : Int) ∧ 0 ≤ (0 : Int) ∧ 0 ≤ (10 : Int) ∧ 0 + 10 ≤ 10 ∧ 0 + 10 ≤ 10) (bs (cpA σ6 55 (Int.toNat 0) 57 (Int.toNat 0) (Int.toNat 10)) fun σ7 => gd (0 ≤ (0 : Int) ∧ 0 ≤ (0 : Int) ∧ 0 ≤ (10 : Int) ∧ 0 + 10 ≤ 10 ∧ 0 + 10 ≤ 10) (bs (cpA σ7 59 (Int.toNat 0) 61 (Int.toNat 0) (Int.toNat 10)) fun σ8 => bs (sF σ8 5190 (gF σ8 5062)) fun σ9 => gd (0 ≤ (0 : Int) ∧ 0 ≤ (0 : Int) ∧ 0 ≤ (6 : Int) ∧ 0 + 6 ≤ 6 ∧ 0 + 6 ≤ 6) (bs (cpA σ9 63 (Int.toNat 0) 65 (Int.toNat 0) (Int.toNat 6)) fun σ10 => gd (0 ≤ (0 : Int) ∧ 0 ≤ (0 : Int) ∧ 0 ≤ (6 : Int) ∧ 0 + 6 ≤ 6 ∧ 0 + 6 ≤ 6) (bs (cpA σ10 67 (Int.toNat 0) 69 (Int.toNat 0) (Int.toNat 6)) fun σ11 => gd (0 ≤ (0 : Int) ∧ 0 ≤ (0 : Int) ∧ 0 ≤ (6 : Int) ∧ 0 + 6 ≤ 6 ∧ 0 + 6 ≤ 6) (bs (cpA σ11 71 (Int.toNat 0) 73 (Int.toNat 0) (Int.toNat 6)) fun σ12 => gd (0 ≤ (0 : Int) ∧ 0 ≤ (0 : Int) ∧ 0 ≤ (6 : Int) ∧ 0 + 6 ≤ 6 ∧ 0 + 6 ≤ 6) (bs (cpA σ12 75 (Int.toNat 0) 77 (Int.toNat 0) (Int.toNat 6)) fun σ13 => some (0, σ13)))))))
set_option maxRecDepth 100000 in
set_option maxHeartbeats 4000000 in
theorem c_Scene_copy_scene2_scene0 {x : Bool} (F : Nat) (σ : St) : Ct 2 0 0 yX7_copy cX7_copy 2 none (LYC x false false) (LYC x false false) [.ref 81, .ref 79] σ (f_Scene_copy_scene2_scene0 F σ) := by
  unfold f_Scene_copy_scene2_scene0
  refine Ct_of (d := 2) (kp := 0) (kd := 0) (own := RX7) (nL := 2) (ret := none) (LY := (LYC x false false)) (LYe := (LYC x false false)) (L := [some (.ref 81), some (.ref 79)]) rfl (by decide +kernel) rfl rfl mf_X10_347.2.2.2.1 rfl fun K => ?_
  refine a_aload_n dX7_copy_0 rfl ?_
  refine a_getR (c0 := 25) fl_X7_12 lyC_81 rfl dX7_copy_1 (key := 5184) rfl ?_
  refine a_aload_n dX7_copy_4 rfl ?_
  refine a_getR (c0 := 23) fl_X7_12 lyC_79 rfl dX7_copy_5 (key := 5056) rfl ?_
  refine a_callVv (as := [.ref 23]) mf_X7_60 lyC_25 rfl (c_Lattice_copy_lattice2_lattice0 F _) LYsame.rf dX7_copy_8 rfl rfl rfl rfl rfl rfl (Or.inl rfl) fun r1 σ2 => ?_
  refine a_aload_n dX7_copy_11 rfl ?_
  refine a_getR (c0 := 33) fl_X7_21 lyC_81 rfl dX7_copy_12 (key := 5185) rfl ?_
  refine a_aload_n dX7_copy_15 rfl ?_
  refine a_getR (c0 := 31) fl_X7_21 lyC_79 rfl dX7_copy_16 (key := 5057) rfl ?_
  refine a_callVv (as := [.ref 31]) mf_X7_64 lyC_33 rfl (c_Compass_copy_compass2_compass0 F _) LYsame.rf dX7_copy_19 rfl rfl rfl rfl rfl rfl (Or.inl rfl) fun r3 σ4 => ?_
  refine a_aload_n dX7_copy_22 rfl ?_
  refine a_aload_n dX7_copy_23 rfl ?_
  refine a_getI fl_X7_44 lyC_79 rfl dX7_copy_24 (key := 5058) rfl ?_
  refine a_putI fl_X7_44 cf_X7 rfl rfl lyC_81 rfl dX7_copy_27 (key := 5186) rfl fun σ5 => ?_
  refine a_aload_n dX7_copy_30 rfl ?_
  refine a_aload_n dX7_copy_31 rfl ?_
  refine a_getI fl_X7_48 lyC_79 rfl dX7_copy_32 (key := 5059) rfl ?_
  refine a_putI fl_X7_48 cf_X7 rfl rfl lyC_81 rfl dX7_copy_35 (key := 5187) rfl fun σ6 => ?_
  refine a_aload_n dX7_copy_38 rfl ?_
  refine a_getR (c0 := 55) fl_X7_25 lyC_79 rfl dX7_copy_39 (key := 5060) rfl ?_
  refine a_iconst dX7_copy_42 ?_
  refine a_aload_n dX7_copy_43 rfl ?_
  refine a_getR (c0 := 57) fl_X7_25 lyC_81 rfl dX7_copy_44 (key := 5188) rfl ?_
  refine a_iconst dX7_copy_47 ?_
  refine a_bipush dX7_copy_48 bi_10 ?_
  refine a_acopy ac_X7_67 lyC_55 lyC_57 rfl rfl rfl rfl dX7_copy_50 fun σ7 => ?_
  refine a_aload_n dX7_copy_53 rfl ?_
  refine a_getR (c0 := 59) fl_X7_29 lyC_79 rfl dX7_copy_54 (key := 5061) rfl ?_
  refine a_iconst dX7_copy_57 ?_
  refine a_aload_n dX7_copy_58 rfl ?_
  refine a_getR (c0 := 61) fl_X7_29 lyC_81 rfl dX7_copy_59 (key := 5189) rfl ?_
  refine a_iconst dX7_copy_62 ?_
  refine a_bipush dX7_copy_63 bi_10 ?_
  refine a_acopy ac_X7_67 lyC_59 lyC_61 rfl rfl rfl rfl dX7_copy_65 fun σ8 => ?_
  refine a_aload_n dX7_copy_68 rfl ?_
  refine a_aload_n dX7_copy_69 rfl ?_
  refine a_getI fl_X7_51 lyC_79 rfl dX7_copy_70 (key := 5062) rfl ?_
  refine a_putI fl_X7_51 cf_X7 rfl rfl lyC_81 rfl dX7_copy_73 (key := 5190) rfl fun σ9 => ?_
  refine a_aload_n dX7_copy_76 rfl ?_
  refine a_getR (c0 := 63) fl_X7_32 lyC_79 rfl dX7_copy_77 (key := 5063) rfl ?_
  refine a_iconst dX7_copy_80 ?_
  refine a_aload_n dX7_copy_81 rfl ?_
  refine a_getR (c0 := 65) fl_X7_32 lyC_81 rfl dX7_copy_82 (key := 5191) rfl ?_
  refine a_iconst dX7_copy_85 ?_
  refine a_bipush dX7_copy_86 bi_6 ?_
  refine a_acopy ac_X7_67 lyC_63 lyC_65 rfl rfl rfl rfl dX7_copy_88 fun σ10 => ?_
  refine a_aload_n dX7_copy_91 rfl ?_
  refine a_getR (c0 := 67) fl_X7_35 lyC_79 rfl dX7_copy_92 (key := 5064) rfl ?_
  refine a_iconst dX7_copy_95 ?_
  refine a_aload_n dX7_copy_96 rfl ?_
  refine a_getR (c0 := 69) fl_X7_35 lyC_81 rfl dX7_copy_97 (key := 5192) rfl ?_
  refine a_iconst dX7_copy_100 ?_
  refine a_bipush dX7_copy_101 bi_6 ?_
  refine a_acopy ac_X7_67 lyC_67 lyC_69 rfl rfl rfl rfl dX7_copy_103 fun σ11 => ?_
  refine a_aload_n dX7_copy_106 rfl ?_
  refine a_getR (c0 := 71) fl_X7_38 lyC_79 rfl dX7_copy_107 (key := 5065) rfl ?_
  refine a_iconst dX7_copy_110 ?_
  refine a_aload_n dX7_copy_111 rfl ?_
  refine a_getR (c0 := 73) fl_X7_38 lyC_81 rfl dX7_copy_112 (key := 5193) rfl ?_
  refine a_iconst dX7_copy_115 ?_
  refine a_bipush dX7_copy_116 bi_6 ?_
  refine a_acopy ac_X7_67 lyC_71 lyC_73 rfl rfl rfl rfl dX7_copy_118 fun σ12 => ?_
  refine a_aload_n dX7_copy_121 rfl ?_
  refine a_getR (c0 := 75) fl_X7_41 lyC_79 rfl dX7_copy_122 (key := 5066) rfl ?_
  refine a_iconst dX7_copy_125 ?_
  refine a_aload_n dX7_copy_126 rfl ?_
  refine a_getR (c0 := 77) fl_X7_41 lyC_81 rfl dX7_copy_127 (key := 5194) rfl ?_
  refine a_iconst dX7_copy_130 ?_
  refine a_bipush dX7_copy_131 bi_6 ?_
  refine a_acopy ac_X7_67 lyC_75 lyC_77 rfl rfl rfl rfl dX7_copy_133 fun σ13 => ?_
  exact a_vret dX7_copy_136
def f_Lattice_copy_lattice3_lattice0 (F : Nat) (σ : St) : Option (Int × St) := bs (sF σ 1664 (gF σ 1472)) fun σ1 => bs (sF σ1 1665 (gF σ1 1473)) fun σ2 => bs (sF σ2 1666 (gF σ2 1474)) fun σ3 => gd (0 ≤ (0 : Int) ∧ 0 ≤ (0 : Int) ∧ 0 ≤ (60 : Int) ∧ 0 + 60 ≤ 60 ∧ 0 + 60 ≤ 60) (bs (cpA σ3 27 (Int.toNat 0) 30 (Int.toNat 0) (Int.toNat 60)) fun σ4 => some (0, σ4))
set_option maxRecDepth 100000 in
set_option maxHeartbeats 4000000 in
theorem c_Lattice_copy_lattice3_lattice0 {x : Bool} (F : Nat) (σ : St) : Ct 1 0 0 yX2_copy cX2_copy 2 none (LYC x false false) (LYC x false false) [.ref 26, .ref 23] σ (f_Lattice_copy_lattice3_lattice0 F σ) := by
  unfold f_Lattice_copy_lattice3_lattice0
  refine Ct_of (d := 1) (kp := 0) (kd := 0) (own := RX2) (nL := 2) (ret := none) (LY := (LYC x false false)) (LYe := (LYC x false false)) (L := [some (.ref 26), some (.ref 23)]) rfl (by decide +kernel) rfl rfl mf_X7_60.2.2.2.1 rfl fun K => ?_
  refine a_aload_n dX2_copy_0 rfl ?_
  refine a_aload_n dX2_copy_1 rfl ?_
  refine a_getI fl_X2_19 lyC_23 rfl dX2_copy_2 (key := 1472) rfl ?_
  refine a_putI fl_X2_19 cf_X2 rfl rfl lyC_26 rfl dX2_copy_5 (key := 1664) rfl fun σ1 => ?_
  refine a_aload_n dX2_copy_8 rfl ?_
  refine a_aload_n dX2_copy_9 rfl ?_
  refine a_getI fl_X2_27 lyC_23 rfl dX2_copy_10 (key := 1473) rfl ?_
  refine a_putI fl_X2_27 cf_X2 rfl rfl lyC_26 rfl dX2_copy_13 (key := 1665) rfl fun σ2 => ?_
  refine a_aload_n dX2_copy_16 rfl ?_
  refine a_aload_n dX2_copy_17 rfl ?_
  refine a_getI fl_X2_34 lyC_23 rfl dX2_copy_18 (key := 1474) rfl ?_
  refine a_putI fl_X2_34 cf_X2 rfl rfl lyC_26 rfl dX2_copy_21 (key := 1666) rfl fun σ3 => ?_
  refine a_aload_n dX2_copy_24 rfl ?_
  refine a_getR (c0 := 27) fl_X2_9 lyC_23 rfl dX2_copy_25 (key := 1475) rfl ?_
  refine a_iconst dX2_copy_28 ?_
  refine a_aload_n dX2_copy_29 rfl ?_
  refine a_getR (c0 := 30) fl_X2_9 lyC_26 rfl dX2_copy_30 (key := 1667) rfl ?_
  refine a_iconst dX2_copy_33 ?_
  refine a_bipush dX2_copy_34 bi_60 ?_
  refine a_acopy ac_X2_41 lyC_27 lyC_30 rfl rfl rfl rfl dX2_copy_36 fun σ4 => ?_
  exact a_vret dX2_copy_39
def f_Compass_copy_compass3_compass0 (F : Nat) (σ : St) : Option (Int × St) := bs (sF σ 2176 (gF σ 1984)) fun σ1 => gd (0 ≤ (0 : Int) ∧ 0 ≤ (0 : Int) ∧ 0 ≤ (4 : Int) ∧ 0 + 4 ≤ 4 ∧ 0 + 4 ≤ 4) (bs (cpA σ1 35 (Int.toNat 0) 38 (Int.toNat 0) (Int.toNat 4)) fun σ2 => gd (0 ≤ (0 : Int) ∧ 0 ≤ (0 : Int) ∧ 0 ≤ (4 : Int) ∧ 0 + 4 ≤ 4 ∧ 0 + 4 ≤ 4) (bs (cpA σ2 39 (Int.toNat 0) 42 (Int.toNat 0) (Int.toNat 4)) fun σ3 => bs (sF σ3 2179 (gF σ3 1987)) fun σ4 => gd (0 ≤ (0 : Int) ∧ 0 ≤ (0 : Int) ∧ 0 ≤ (8 : Int) ∧ 0 + 8 ≤ 8 ∧ 0 + 8 ≤ 8) (bs (cpA σ4 43 (Int.toNat 0) 46 (Int.toNat 0) (Int.toNat 8)) fun σ5 => gd (0 ≤ (0 : Int) ∧ 0 ≤ (0 : Int) ∧ 0 ≤ (8 : Int) ∧ 0 + 8 ≤ 8 ∧ 0 + 8 ≤ 8) (bs (cpA σ5 47 (Int.toNat 0) 50 (Int.toNat 0) (Int.toNat 8)) fun σ6 => gd (0 ≤ (0 : Int) ∧ 0 ≤ (0 : Int) ∧ 0 ≤ (8 : Int) ∧ 0 + 8 ≤ 8 ∧ 0 + 8 ≤ 8) (bs (cpA σ6 51 (Int.toNat 0) 54 (Int.toNat 0) (Int.toNat 8)) fun σ7 => some (0, σ7))))))
set_option maxRecDepth 100000 in
set_option maxHeartbeats 4000000 in
theorem c_Compass_copy_compass3_compass0 {x : Bool} (F : Nat) (σ : St) : Ct 1 0 0 yX0_copy cX0_copy 2 none (LYC x false false) (LYC x false false) [.ref 34, .ref 31] σ (f_Compass_copy_compass3_compass0 F σ) := by
  unfold f_Compass_copy_compass3_compass0
  refine Ct_of (d := 1) (kp := 0) (kd := 0) (own := RX0) (nL := 2) (ret := none) (LY := (LYC x false false)) (LYe := (LYC x false false)) (L := [some (.ref 34), some (.ref 31)]) rfl (by decide +kernel) rfl rfl mf_X7_64.2.2.2.1 rfl fun K => ?_
  refine a_aload_n dX0_copy_0 rfl ?_
  refine a_aload_n dX0_copy_1 rfl ?_
  refine a_getI fl_X0_31 lyC_31 rfl dX0_copy_2 (key := 1984) rfl ?_
  refine a_putI fl_X0_31 cf_X0 rfl rfl lyC_34 rfl dX0_copy_5 (key := 2176) rfl fun σ1 => ?_
  refine a_aload_n dX0_copy_8 rfl ?_
  refine a_getR (c0 := 35) fl_X0_9 lyC_31 rfl dX0_copy_9 (key := 1985) rfl ?_
  refine a_iconst dX0_copy_12 ?_
  refine a_aload_n dX0_copy_13 rfl ?_
  refine a_getR (c0 := 38) fl_X0_9 lyC_34 rfl dX0_copy_14 (key := 2177) rfl ?_
  refine a_iconst dX0_copy_17 ?_
  refine a_iconst dX0_copy_18 ?_
  refine a_acopy ac_X0_35 lyC_35 lyC_38 rfl rfl rfl rfl dX0_copy_19 fun σ2 => ?_
  refine a_aload_n dX0_copy_22 rfl ?_
  refine a_getR (c0 := 39) fl_X0_15 lyC_31 rfl dX0_copy_23 (key := 1986) rfl ?_
  refine a_iconst dX0_copy_26 ?_
  refine a_aload_n dX0_copy_27 rfl ?_
  refine a_getR (c0 := 42) fl_X0_15 lyC_34 rfl dX0_copy_28 (key := 2178) rfl ?_
  refine a_iconst dX0_copy_31 ?_
  refine a_iconst dX0_copy_32 ?_
  refine a_acopy ac_X0_35 lyC_39 lyC_42 rfl rfl rfl rfl dX0_copy_33 fun σ3 => ?_
  refine a_aload_n dX0_copy_36 rfl ?_
  refine a_aload_n dX0_copy_37 rfl ?_
  refine a_getI fl_X0_41 lyC_31 rfl dX0_copy_38 (key := 1987) rfl ?_
  refine a_putI fl_X0_41 cf_X0 rfl rfl lyC_34 rfl dX0_copy_41 (key := 2179) rfl fun σ4 => ?_
  refine a_aload_n dX0_copy_44 rfl ?_
  refine a_getR (c0 := 43) fl_X0_18 lyC_31 rfl dX0_copy_45 (key := 1988) rfl ?_
  refine a_iconst dX0_copy_48 ?_
  refine a_aload_n dX0_copy_49 rfl ?_
  refine a_getR (c0 := 46) fl_X0_18 lyC_34 rfl dX0_copy_50 (key := 2180) rfl ?_
  refine a_iconst dX0_copy_53 ?_
  refine a_bipush dX0_copy_54 bi_8 ?_
  refine a_acopy ac_X0_35 lyC_43 lyC_46 rfl rfl rfl rfl dX0_copy_56 fun σ5 => ?_
  refine a_aload_n dX0_copy_59 rfl ?_
  refine a_getR (c0 := 47) fl_X0_21 lyC_31 rfl dX0_copy_60 (key := 1989) rfl ?_
  refine a_iconst dX0_copy_63 ?_
  refine a_aload_n dX0_copy_64 rfl ?_
  refine a_getR (c0 := 50) fl_X0_21 lyC_34 rfl dX0_copy_65 (key := 2181) rfl ?_
  refine a_iconst dX0_copy_68 ?_
  refine a_bipush dX0_copy_69 bi_8 ?_
  refine a_acopy ac_X0_35 lyC_47 lyC_50 rfl rfl rfl rfl dX0_copy_71 fun σ6 => ?_
  refine a_aload_n dX0_copy_74 rfl ?_
  refine a_getR (c0 := 51) fl_X0_24 lyC_31 rfl dX0_copy_75 (key := 1990) rfl ?_
  refine a_iconst dX0_copy_78 ?_
  refine a_aload_n dX0_copy_79 rfl ?_
  refine a_getR (c0 := 54) fl_X0_24 lyC_34 rfl dX0_copy_80 (key := 2182) rfl ?_
  refine a_iconst dX0_copy_83 ?_
  refine a_bipush dX0_copy_84 bi_8 ?_
  refine a_acopy ac_X0_35 lyC_51 lyC_54 rfl rfl rfl rfl dX0_copy_86 fun σ7 => ?_
  exact a_vret dX0_copy_89
def f_Scene_copy_scene3_scene0 (F : Nat) (σ : St) : Option (Int × St) := bnd (f_Lattice_copy_lattice3_lattice0 F σ) fun r1 σ2 => bnd (f_Compass_copy_compass3_compass0 F σ2) fun r3 σ4 => bs (sF σ4 5250 (gF σ4 5058)) fun σ5 => bs (sF σ5 5251 (gF σ5 5059)) fun σ6 => gd (0 ≤ (0 : Int) ∧ 0 ≤ (0 : Int) ∧ 0 ≤ (10 : Int) ∧ 0 + 10 ≤ 10 ∧ 0 + 10 ≤ 10) (bs (cpA σ6 55 (Int.toNat 0) 58 (Int.toNat 0) (Int.toNat 10)) fun σ7 => gd (0 ≤ (0 : Int) ∧ 0 ≤ (0 : Int) ∧ 0 ≤ (10 : Int) ∧ 0 + 10 ≤ 10 ∧ 0 + 10 ≤ 10) (bs (cpA σ7 59 (Int.toNat 0) 62 (Int.toNat 0) (Int.toNat 10)) fun σ8 => bs (sF σ8 5254 (gF σ8 5062)) fun σ9 => gd (0 ≤ (0 : Int) ∧ 0 ≤ (0 : Int) ∧ 0 ≤ (6 : Int) ∧ 0 + 6 ≤ 6 ∧ 0 + 6 ≤ 6) (bs (cpA σ9 63 (Int.toNat 0) 66 (Int.toNat 0) (Int.toNat 6)) fun σ10 => gd (0 ≤ (0 : Int) ∧ 0 ≤ (0 : Int) ∧ 0 ≤ (6 : Int) ∧ 0 + 6 ≤ 6 ∧ 0 + 6 ≤ 6) (bs (cpA σ10 67 (Int.toNat 0) 70 (Int.toNat 0) (Int.toNat 6)) fun σ11 => gd (0 ≤ (0 : Int) ∧ 0 ≤ (0 : Int) ∧ 0 ≤ (6 : Int) ∧ 0 + 6 ≤ 6 ∧ 0 + 6 ≤ 6) (bs (cpA σ11 71 (Int.toNat 0) 74 (Int.toNat 0) (Int.toNat 6)) fun σ12 => gd (0 ≤ (0 : Int) ∧ 0 ≤ (0 : Int) ∧ 0 ≤ (6 : Int) ∧ 0 + 6 ≤ 6 ∧ 0 + 6 ≤ 6) (bs (cpA σ12 75 (Int.toNat 0) 78 (Int.toNat 0) (Int.toNat 6)) fun σ13 => some (0, σ13)))))))
set_option maxRecDepth 100000 in
set_option maxHeartbeats 4000000 in
theorem c_Scene_copy_scene3_scene0 {x : Bool} (F : Nat) (σ : St) : Ct 2 0 0 yX7_copy cX7_copy 2 none (LYC x false false) (LYC x false false) [.ref 82, .ref 79] σ (f_Scene_copy_scene3_scene0 F σ) := by
  unfold f_Scene_copy_scene3_scene0
  refine Ct_of (d := 2) (kp := 0) (kd := 0) (own := RX7) (nL := 2) (ret := none) (LY := (LYC x false false)) (LYe := (LYC x false false)) (L := [some (.ref 82), some (.ref 79)]) rfl (by decide +kernel) rfl rfl mf_X10_347.2.2.2.1 rfl fun K => ?_
  refine a_aload_n dX7_copy_0 rfl ?_
  refine a_getR (c0 := 26) fl_X7_12 lyC_82 rfl dX7_copy_1 (key := 5248) rfl ?_
  refine a_aload_n dX7_copy_4 rfl ?_
  refine a_getR (c0 := 23) fl_X7_12 lyC_79 rfl dX7_copy_5 (key := 5056) rfl ?_
  refine a_callVv (as := [.ref 23]) mf_X7_60 lyC_26 rfl (c_Lattice_copy_lattice3_lattice0 F _) LYsame.rf dX7_copy_8 rfl rfl rfl rfl rfl rfl (Or.inl rfl) fun r1 σ2 => ?_
  refine a_aload_n dX7_copy_11 rfl ?_
  refine a_getR (c0 := 34) fl_X7_21 lyC_82 rfl dX7_copy_12 (key := 5249) rfl ?_
  refine a_aload_n dX7_copy_15 rfl ?_
  refine a_getR (c0 := 31) fl_X7_21 lyC_79 rfl dX7_copy_16 (key := 5057) rfl ?_
  refine a_callVv (as := [.ref 31]) mf_X7_64 lyC_34 rfl (c_Compass_copy_compass3_compass0 F _) LYsame.rf dX7_copy_19 rfl rfl rfl rfl rfl rfl (Or.inl rfl) fun r3 σ4 => ?_
  refine a_aload_n dX7_copy_22 rfl ?_
  refine a_aload_n dX7_copy_23 rfl ?_
  refine a_getI fl_X7_44 lyC_79 rfl dX7_copy_24 (key := 5058) rfl ?_
  refine a_putI fl_X7_44 cf_X7 rfl rfl lyC_82 rfl dX7_copy_27 (key := 5250) rfl fun σ5 => ?_
  refine a_aload_n dX7_copy_30 rfl ?_
  refine a_aload_n dX7_copy_31 rfl ?_
  refine a_getI fl_X7_48 lyC_79 rfl dX7_copy_32 (key := 5059) rfl ?_
  refine a_putI fl_X7_48 cf_X7 rfl rfl lyC_82 rfl dX7_copy_35 (key := 5251) rfl fun σ6 => ?_
  refine a_aload_n dX7_copy_38 rfl ?_
  refine a_getR (c0 := 55) fl_X7_25 lyC_79 rfl dX7_copy_39 (key := 5060) rfl ?_
  refine a_iconst dX7_copy_42 ?_
  refine a_aload_n dX7_copy_43 rfl ?_
  refine a_getR (c0 := 58) fl_X7_25 lyC_82 rfl dX7_copy_44 (key := 5252) rfl ?_
  refine a_iconst dX7_copy_47 ?_
  refine a_bipush dX7_copy_48 bi_10 ?_
  refine a_acopy ac_X7_67 lyC_55 lyC_58 rfl rfl rfl rfl dX7_copy_50 fun σ7 => ?_
  refine a_aload_n dX7_copy_53 rfl ?_
  refine a_getR (c0 := 59) fl_X7_29 lyC_79 rfl dX7_copy_54 (key := 5061) rfl ?_
  refine a_iconst dX7_copy_57 ?_
  refine a_aload_n dX7_copy_58 rfl ?_
  refine a_getR (c0 := 62) fl_X7_29 lyC_82 rfl dX7_copy_59 (key := 5253) rfl ?_
  refine a_iconst dX7_copy_62 ?_
  refine a_bipush dX7_copy_63 bi_10 ?_
  refine a_acopy ac_X7_67 lyC_59 lyC_62 rfl rfl rfl rfl dX7_copy_65 fun σ8 => ?_
  refine a_aload_n dX7_copy_68 rfl ?_
  refine a_aload_n dX7_copy_69 rfl ?_
  refine a_getI fl_X7_51 lyC_79 rfl dX7_copy_70 (key := 5062) rfl ?_
  refine a_putI fl_X7_51 cf_X7 rfl rfl lyC_82 rfl dX7_copy_73 (key := 5254) rfl fun σ9 => ?_
  refine a_aload_n dX7_copy_76 rfl ?_
  refine a_getR (c0 := 63) fl_X7_32 lyC_79 rfl dX7_copy_77 (key := 5063) rfl ?_
  refine a_iconst dX7_copy_80 ?_
  refine a_aload_n dX7_copy_81 rfl ?_
  refine a_getR (c0 := 66) fl_X7_32 lyC_82 rfl dX7_copy_82 (key := 5255) rfl ?_
  refine a_iconst dX7_copy_85 ?_
  refine a_bipush dX7_copy_86 bi_6 ?_
  refine a_acopy ac_X7_67 lyC_63 lyC_66 rfl rfl rfl rfl dX7_copy_88 fun σ10 => ?_
  refine a_aload_n dX7_copy_91 rfl ?_
  refine a_getR (c0 := 67) fl_X7_35 lyC_79 rfl dX7_copy_92 (key := 5064) rfl ?_
  refine a_iconst dX7_copy_95 ?_
  refine a_aload_n dX7_copy_96 rfl ?_
  refine a_getR (c0 := 70) fl_X7_35 lyC_82 rfl dX7_copy_97 (key := 5256) rfl ?_
  refine a_iconst dX7_copy_100 ?_
  refine a_bipush dX7_copy_101 bi_6 ?_
  refine a_acopy ac_X7_67 lyC_67 lyC_70 rfl rfl rfl rfl dX7_copy_103 fun σ11 => ?_
  refine a_aload_n dX7_copy_106 rfl ?_
  refine a_getR (c0 := 71) fl_X7_38 lyC_79 rfl dX7_copy_107 (key := 5065) rfl ?_
  refine a_iconst dX7_copy_110 ?_
  refine a_aload_n dX7_copy_111 rfl ?_
  refine a_getR (c0 := 74) fl_X7_38 lyC_82 rfl dX7_copy_112 (key := 5257) rfl ?_
  refine a_iconst dX7_copy_115 ?_
  refine a_bipush dX7_copy_116 bi_6 ?_
  refine a_acopy ac_X7_67 lyC_71 lyC_74 rfl rfl rfl rfl dX7_copy_118 fun σ12 => ?_
  refine a_aload_n dX7_copy_121 rfl ?_
  refine a_getR (c0 := 75) fl_X7_41 lyC_79 rfl dX7_copy_122 (key := 5066) rfl ?_
  refine a_iconst dX7_copy_125 ?_
  refine a_aload_n dX7_copy_126 rfl ?_
  refine a_getR (c0 := 78) fl_X7_41 lyC_82 rfl dX7_copy_127 (key := 5258) rfl ?_
  refine a_iconst dX7_copy_130 ?_
  refine a_bipush dX7_copy_131 bi_6 ?_
  refine a_acopy ac_X7_67 lyC_75 lyC_78 rfl rfl rfl rfl dX7_copy_133 fun σ13 => ?_
  exact a_vret dX7_copy_136
def f_W_image (F : Nat) (σ : St) (x1 : Int) : Option (Int × St) := gd (rng x1) (if x1 < 0 then some (0, σ) else gd (rng x1 ∧ rng 2) (if x1 < 2 then gd (inb x1 2) (if x1 = 0 then bnd (f_Scene_copy_scene2_scene0 F σ) fun r1 σ2 => gd (inb x1 2 ∧ isb 1) (bs (sA σ2 84 (Int.toNat x1) 1) fun σ3 => some (1, σ3)) else bnd (f_Scene_copy_scene3_scene0 F σ) fun r4 σ5 => gd (inb x1 2 ∧ isb 1) (bs (sA σ5 84 (Int.toNat x1) 1) fun σ6 => some (1, σ6))) else some (0, σ)))
set_option maxRecDepth 100000 in
set_option maxHeartbeats 4000000 in
theorem c_W_image {x : Bool} (F : Nat) (σ : St) (x1 : Int) : Ct 3 0 1 yX10_image cX10_image 2 (some .boolean) (LYC x false false) (LYC x false false) [.ref 0, vi x1] σ (f_W_image F σ x1) := by
  unfold f_W_image
  refine Ct_of (d := 3) (kp := 0) (kd := 1) (own := RX10) (nL := 2) (ret := (some .boolean)) (LY := (LYC x false false)) (LYe := (LYC x false false)) (L := [some (.ref 0), some (vi x1)]) rfl (by decide +kernel) rfl rfl mf_L_193.2.2.2.1 rfl fun K => ?_
  refine a_iload_n dX10_image_0 rfl ?_
  refine a_if_lt dX10_image_1 rfl (fun _ => ?_) (fun _ => ?_)
  · refine a_iconst dX10_image_9 ?_
    exact a_zretc (by decide) dX10_image_10
  refine a_iload_n dX10_image_4 rfl ?_
  refine a_iconst dX10_image_5 ?_
  refine a_icmp_lt dX10_image_6 rfl (fun _ => ?_) (fun _ => ?_)
  · refine a_aload_n dX10_image_11 rfl ?_
    refine a_getR (c0 := 83) fl_X10_33 lyC_0 rfl dX10_image_12 (key := 4) rfl ?_
    refine a_iload_n dX10_image_15 rfl ?_
    refine a_aaldS lyC_83 rfl dX10_image_16 fun hi7 => ?_
    refine a_if (fun _ => ?_) (fun _ => ?_)
    · refine a_ref (q' := 81) (by omega) ?_
      refine a_aload_n dX10_image_17 rfl ?_
      refine a_getR (c0 := 79) fl_X10_26 lyC_0 rfl dX10_image_18 (key := 2) rfl ?_
      refine a_callVv (as := [.ref 79]) mf_X10_347 lyC_81 rfl (c_Scene_copy_scene2_scene0 F _) LYsame.rf dX10_image_21 rfl rfl rfl rfl rfl rfl (Or.inl rfl) fun r1 σ2 => ?_
      refine a_aload_n dX10_image_24 rfl ?_
      refine a_getR (c0 := 84) fl_X10_37 lyC_0 rfl dX10_image_25 (key := 5) rfl ?_
      refine a_iload_n dX10_image_28 rfl ?_
      refine a_iconst dX10_image_29 ?_
      refine a_zast lyC_84 rfl dX10_image_30 fun σ3 => ?_
      refine a_iconst dX10_image_31 ?_
      exact a_zretc (by decide) dX10_image_32
    refine a_ref (q' := 82) (by omega) ?_
    refine a_aload_n dX10_image_17 rfl ?_
    refine a_getR (c0 := 79) fl_X10_26 lyC_0 rfl dX10_image_18 (key := 2) rfl ?_
    refine a_callVv (as := [.ref 79]) mf_X10_347 lyC_82 rfl (c_Scene_copy_scene3_scene0 F _) LYsame.rf dX10_image_21 rfl rfl rfl rfl rfl rfl (Or.inl rfl) fun r4 σ5 => ?_
    refine a_aload_n dX10_image_24 rfl ?_
    refine a_getR (c0 := 84) fl_X10_37 lyC_0 rfl dX10_image_25 (key := 5) rfl ?_
    refine a_iload_n dX10_image_28 rfl ?_
    refine a_iconst dX10_image_29 ?_
    refine a_zast lyC_84 rfl dX10_image_30 fun σ6 => ?_
    refine a_iconst dX10_image_31 ?_
    exact a_zretc (by decide) dX10_image_32
  refine a_iconst dX10_image_9 ?_
  exact a_zretc (by decide) dX10_image_10
def f_Lattice_copy_lattice0_lattice2 (F : Nat) (σ : St) : Option (Int × St) := bs (sF σ 1472 (gF σ 1600)) fun σ1 => bs (sF σ1 1473 (gF σ1 1601)) fun σ2 => bs (sF σ2 1474 (gF σ2 1602)) fun σ3 => gd (0 ≤ (0 : Int) ∧ 0 ≤ (0 : Int) ∧ 0 ≤ (60 : Int) ∧ 0 + 60 ≤ 60 ∧ 0 + 60 ≤ 60) (bs (cpA σ3 29 (Int.toNat 0) 27 (Int.toNat 0) (Int.toNat 60)) fun σ4 => some (0, σ4))
set_option maxRecDepth 100000 in
set_option maxHeartbeats 4000000 in
theorem c_Lattice_copy_lattice0_lattice2 {x : Bool} (F : Nat) (σ : St) : Ct 1 0 0 yX2_copy cX2_copy 2 none (LYC x false false) (LYC x false false) [.ref 23, .ref 25] σ (f_Lattice_copy_lattice0_lattice2 F σ) := by
  unfold f_Lattice_copy_lattice0_lattice2
  refine Ct_of (d := 1) (kp := 0) (kd := 0) (own := RX2) (nL := 2) (ret := none) (LY := (LYC x false false)) (LYe := (LYC x false false)) (L := [some (.ref 23), some (.ref 25)]) rfl (by decide +kernel) rfl rfl mf_X7_60.2.2.2.1 rfl fun K => ?_
  refine a_aload_n dX2_copy_0 rfl ?_
  refine a_aload_n dX2_copy_1 rfl ?_
  refine a_getI fl_X2_19 lyC_25 rfl dX2_copy_2 (key := 1600) rfl ?_
  refine a_putI fl_X2_19 cf_X2 rfl rfl lyC_23 rfl dX2_copy_5 (key := 1472) rfl fun σ1 => ?_
  refine a_aload_n dX2_copy_8 rfl ?_
  refine a_aload_n dX2_copy_9 rfl ?_
  refine a_getI fl_X2_27 lyC_25 rfl dX2_copy_10 (key := 1601) rfl ?_
  refine a_putI fl_X2_27 cf_X2 rfl rfl lyC_23 rfl dX2_copy_13 (key := 1473) rfl fun σ2 => ?_
  refine a_aload_n dX2_copy_16 rfl ?_
  refine a_aload_n dX2_copy_17 rfl ?_
  refine a_getI fl_X2_34 lyC_25 rfl dX2_copy_18 (key := 1602) rfl ?_
  refine a_putI fl_X2_34 cf_X2 rfl rfl lyC_23 rfl dX2_copy_21 (key := 1474) rfl fun σ3 => ?_
  refine a_aload_n dX2_copy_24 rfl ?_
  refine a_getR (c0 := 29) fl_X2_9 lyC_25 rfl dX2_copy_25 (key := 1603) rfl ?_
  refine a_iconst dX2_copy_28 ?_
  refine a_aload_n dX2_copy_29 rfl ?_
  refine a_getR (c0 := 27) fl_X2_9 lyC_23 rfl dX2_copy_30 (key := 1475) rfl ?_
  refine a_iconst dX2_copy_33 ?_
  refine a_bipush dX2_copy_34 bi_60 ?_
  refine a_acopy ac_X2_41 lyC_29 lyC_27 rfl rfl rfl rfl dX2_copy_36 fun σ4 => ?_
  exact a_vret dX2_copy_39
def f_Compass_copy_compass0_compass2 (F : Nat) (σ : St) : Option (Int × St) := bs (sF σ 1984 (gF σ 2112)) fun σ1 => gd (0 ≤ (0 : Int) ∧ 0 ≤ (0 : Int) ∧ 0 ≤ (4 : Int) ∧ 0 + 4 ≤ 4 ∧ 0 + 4 ≤ 4) (bs (cpA σ1 37 (Int.toNat 0) 35 (Int.toNat 0) (Int.toNat 4)) fun σ2 => gd (0 ≤ (0 : Int) ∧ 0 ≤ (0 : Int) ∧ 0 ≤ (4 : Int) ∧ 0 + 4 ≤ 4 ∧ 0 + 4 ≤ 4) (bs (cpA σ2 41 (Int.toNat 0) 39 (Int.toNat 0) (Int.toNat 4)) fun σ3 => bs (sF σ3 1987 (gF σ3 2115)) fun σ4 => gd (0 ≤ (0 : Int) ∧ 0 ≤ (0 : Int) ∧ 0 ≤ (8 : Int) ∧ 0 + 8 ≤ 8 ∧ 0 + 8 ≤ 8) (bs (cpA σ4 45 (Int.toNat 0) 43 (Int.toNat 0) (Int.toNat 8)) fun σ5 => gd (0 ≤ (0 : Int) ∧ 0 ≤ (0 : Int) ∧ 0 ≤ (8 : Int) ∧ 0 + 8 ≤ 8 ∧ 0 + 8 ≤ 8) (bs (cpA σ5 49 (Int.toNat 0) 47 (Int.toNat 0) (Int.toNat 8)) fun σ6 => gd (0 ≤ (0 : Int) ∧ 0 ≤ (0 : Int) ∧ 0 ≤ (8 : Int) ∧ 0 + 8 ≤ 8 ∧ 0 + 8 ≤ 8) (bs (cpA σ6 53 (Int.toNat 0) 51 (Int.toNat 0) (Int.toNat 8)) fun σ7 => some (0, σ7))))))
set_option maxRecDepth 100000 in
set_option maxHeartbeats 4000000 in
theorem c_Compass_copy_compass0_compass2 {x : Bool} (F : Nat) (σ : St) : Ct 1 0 0 yX0_copy cX0_copy 2 none (LYC x false false) (LYC x false false) [.ref 31, .ref 33] σ (f_Compass_copy_compass0_compass2 F σ) := by
  unfold f_Compass_copy_compass0_compass2
  refine Ct_of (d := 1) (kp := 0) (kd := 0) (own := RX0) (nL := 2) (ret := none) (LY := (LYC x false false)) (LYe := (LYC x false false)) (L := [some (.ref 31), some (.ref 33)]) rfl (by decide +kernel) rfl rfl mf_X7_64.2.2.2.1 rfl fun K => ?_
  refine a_aload_n dX0_copy_0 rfl ?_
  refine a_aload_n dX0_copy_1 rfl ?_
  refine a_getI fl_X0_31 lyC_33 rfl dX0_copy_2 (key := 2112) rfl ?_
  refine a_putI fl_X0_31 cf_X0 rfl rfl lyC_31 rfl dX0_copy_5 (key := 1984) rfl fun σ1 => ?_
  refine a_aload_n dX0_copy_8 rfl ?_
  refine a_getR (c0 := 37) fl_X0_9 lyC_33 rfl dX0_copy_9 (key := 2113) rfl ?_
  refine a_iconst dX0_copy_12 ?_
  refine a_aload_n dX0_copy_13 rfl ?_
  refine a_getR (c0 := 35) fl_X0_9 lyC_31 rfl dX0_copy_14 (key := 1985) rfl ?_
  refine a_iconst dX0_copy_17 ?_
  refine a_iconst dX0_copy_18 ?_
  refine a_acopy ac_X0_35 lyC_37 lyC_35 rfl rfl rfl rfl dX0_copy_19 fun σ2 => ?_
  refine a_aload_n dX0_copy_22 rfl ?_
  refine a_getR (c0 := 41) fl_X0_15 lyC_33 rfl dX0_copy_23 (key := 2114) rfl ?_
  refine a_iconst dX0_copy_26 ?_
  refine a_aload_n dX0_copy_27 rfl ?_
  refine a_getR (c0 := 39) fl_X0_15 lyC_31 rfl dX0_copy_28 (key := 1986) rfl ?_
  refine a_iconst dX0_copy_31 ?_
  refine a_iconst dX0_copy_32 ?_
  refine a_acopy ac_X0_35 lyC_41 lyC_39 rfl rfl rfl rfl dX0_copy_33 fun σ3 => ?_
  refine a_aload_n dX0_copy_36 rfl ?_
  refine a_aload_n dX0_copy_37 rfl ?_
  refine a_getI fl_X0_41 lyC_33 rfl dX0_copy_38 (key := 2115) rfl ?_
  refine a_putI fl_X0_41 cf_X0 rfl rfl lyC_31 rfl dX0_copy_41 (key := 1987) rfl fun σ4 => ?_
  refine a_aload_n dX0_copy_44 rfl ?_
  refine a_getR (c0 := 45) fl_X0_18 lyC_33 rfl dX0_copy_45 (key := 2116) rfl ?_
  refine a_iconst dX0_copy_48 ?_
  refine a_aload_n dX0_copy_49 rfl ?_
  refine a_getR (c0 := 43) fl_X0_18 lyC_31 rfl dX0_copy_50 (key := 1988) rfl ?_
  refine a_iconst dX0_copy_53 ?_
  refine a_bipush dX0_copy_54 bi_8 ?_
  refine a_acopy ac_X0_35 lyC_45 lyC_43 rfl rfl rfl rfl dX0_copy_56 fun σ5 => ?_
  refine a_aload_n dX0_copy_59 rfl ?_
  refine a_getR (c0 := 49) fl_X0_21 lyC_33 rfl dX0_copy_60 (key := 2117) rfl ?_
  refine a_iconst dX0_copy_63 ?_
  refine a_aload_n dX0_copy_64 rfl ?_
  refine a_getR (c0 := 47) fl_X0_21 lyC_31 rfl dX0_copy_65 (key := 1989) rfl ?_
  refine a_iconst dX0_copy_68 ?_
  refine a_bipush dX0_copy_69 bi_8 ?_
  refine a_acopy ac_X0_35 lyC_49 lyC_47 rfl rfl rfl rfl dX0_copy_71 fun σ6 => ?_
  refine a_aload_n dX0_copy_74 rfl ?_
  refine a_getR (c0 := 53) fl_X0_24 lyC_33 rfl dX0_copy_75 (key := 2118) rfl ?_
  refine a_iconst dX0_copy_78 ?_
  refine a_aload_n dX0_copy_79 rfl ?_
  refine a_getR (c0 := 51) fl_X0_24 lyC_31 rfl dX0_copy_80 (key := 1990) rfl ?_
  refine a_iconst dX0_copy_83 ?_
  refine a_bipush dX0_copy_84 bi_8 ?_
  refine a_acopy ac_X0_35 lyC_53 lyC_51 rfl rfl rfl rfl dX0_copy_86 fun σ7 => ?_
  exact a_vret dX0_copy_89
def f_Scene_copy_scene0_scene2 (F : Nat) (σ : St) : Option (Int × St) := bnd (f_Lattice_copy_lattice0_lattice2 F σ) fun r1 σ2 => bnd (f_Compass_copy_compass0_compass2 F σ2) fun r3 σ4 => bs (sF σ4 5058 (gF σ4 5186)) fun σ5 => bs (sF σ5 5059 (gF σ5 5187)) fun σ6 => gd (0 ≤ (0 : Int) ∧ 0 ≤ (0 : Int) ∧ 0 ≤ (10 : Int) ∧ 0 + 10 ≤ 10 ∧ 0 + 10 ≤ 10) (bs (cpA σ6 57 (Int.toNat 0) 55 (Int.toNat 0) (Int.toNat 10)) fun σ7 => gd (0 ≤ (0 : Int) ∧ 0 ≤ (0 : Int) ∧ 0 ≤ (10 : Int) ∧ 0 + 10 ≤ 10 ∧ 0 + 10 ≤ 10) (bs (cpA σ7 61 (Int.toNat 0) 59 (Int.toNat 0) (Int.toNat 10)) fun σ8 => bs (sF σ8 5062 (gF σ8 5190)) fun σ9 => gd (0 ≤ (0 : Int) ∧ 0 ≤ (0 : Int) ∧ 0 ≤ (6 : Int) ∧ 0 + 6 ≤ 6 ∧ 0 + 6 ≤ 6) (bs (cpA σ9 65 (Int.toNat 0) 63 (Int.toNat 0) (Int.toNat 6)) fun σ10 => gd (0 ≤ (0 : Int) ∧ 0 ≤ (0 : Int) ∧ 0 ≤ (6 : Int) ∧ 0 + 6 ≤ 6 ∧ 0 + 6 ≤ 6) (bs (cpA σ10 69 (Int.toNat 0) 67 (Int.toNat 0) (Int.toNat 6)) fun σ11 => gd (0 ≤ (0 : Int) ∧ 0 ≤ (0 : Int) ∧ 0 ≤ (6 : Int) ∧ 0 + 6 ≤ 6 ∧ 0 + 6 ≤ 6) (bs (cpA σ11 73 (Int.toNat 0) 71 (Int.toNat 0) (Int.toNat 6)) fun σ12 => gd (0 ≤ (0 : Int) ∧ 0 ≤ (0 : Int) ∧ 0 ≤ (6 : Int) ∧ 0 + 6 ≤ 6 ∧ 0 + 6 ≤ 6) (bs (cpA σ12 77 (Int.toNat 0) 75 (Int.toNat 0) (Int.toNat 6)) fun σ13 => some (0, σ13)))))))
set_option maxRecDepth 100000 in
set_option maxHeartbeats 4000000 in
theorem c_Scene_copy_scene0_scene2 {x : Bool} (F : Nat) (σ : St) : Ct 2 0 0 yX7_copy cX7_copy 2 none (LYC x false false) (LYC x false false) [.ref 79, .ref 81] σ (f_Scene_copy_scene0_scene2 F σ) := by
  unfold f_Scene_copy_scene0_scene2
  refine Ct_of (d := 2) (kp := 0) (kd := 0) (own := RX7) (nL := 2) (ret := none) (LY := (LYC x false false)) (LYe := (LYC x false false)) (L := [some (.ref 79), some (.ref 81)]) rfl (by decide +kernel) rfl rfl mf_X10_347.2.2.2.1 rfl fun K => ?_
  refine a_aload_n dX7_copy_0 rfl ?_
  refine a_getR (c0 := 23) fl_X7_12 lyC_79 rfl dX7_copy_1 (key := 5056) rfl ?_
  refine a_aload_n dX7_copy_4 rfl ?_
  refine a_getR (c0 := 25) fl_X7_12 lyC_81 rfl dX7_copy_5 (key := 5184) rfl ?_
  refine a_callVv (as := [.ref 25]) mf_X7_60 lyC_23 rfl (c_Lattice_copy_lattice0_lattice2 F _) LYsame.rf dX7_copy_8 rfl rfl rfl rfl rfl rfl (Or.inl rfl) fun r1 σ2 => ?_
  refine a_aload_n dX7_copy_11 rfl ?_
  refine a_getR (c0 := 31) fl_X7_21 lyC_79 rfl dX7_copy_12 (key := 5057) rfl ?_
  refine a_aload_n dX7_copy_15 rfl ?_
  refine a_getR (c0 := 33) fl_X7_21 lyC_81 rfl dX7_copy_16 (key := 5185) rfl ?_
  refine a_callVv (as := [.ref 33]) mf_X7_64 lyC_31 rfl (c_Compass_copy_compass0_compass2 F _) LYsame.rf dX7_copy_19 rfl rfl rfl rfl rfl rfl (Or.inl rfl) fun r3 σ4 => ?_
  refine a_aload_n dX7_copy_22 rfl ?_
  refine a_aload_n dX7_copy_23 rfl ?_
  refine a_getI fl_X7_44 lyC_81 rfl dX7_copy_24 (key := 5186) rfl ?_
  refine a_putI fl_X7_44 cf_X7 rfl rfl lyC_79 rfl dX7_copy_27 (key := 5058) rfl fun σ5 => ?_
  refine a_aload_n dX7_copy_30 rfl ?_
  refine a_aload_n dX7_copy_31 rfl ?_
  refine a_getI fl_X7_48 lyC_81 rfl dX7_copy_32 (key := 5187) rfl ?_
  refine a_putI fl_X7_48 cf_X7 rfl rfl lyC_79 rfl dX7_copy_35 (key := 5059) rfl fun σ6 => ?_
  refine a_aload_n dX7_copy_38 rfl ?_
  refine a_getR (c0 := 57) fl_X7_25 lyC_81 rfl dX7_copy_39 (key := 5188) rfl ?_
  refine a_iconst dX7_copy_42 ?_
  refine a_aload_n dX7_copy_43 rfl ?_
  refine a_getR (c0 := 55) fl_X7_25 lyC_79 rfl dX7_copy_44 (key := 5060) rfl ?_
  refine a_iconst dX7_copy_47 ?_
  refine a_bipush dX7_copy_48 bi_10 ?_
  refine a_acopy ac_X7_67 lyC_57 lyC_55 rfl rfl rfl rfl dX7_copy_50 fun σ7 => ?_
  refine a_aload_n dX7_copy_53 rfl ?_
  refine a_getR (c0 := 61) fl_X7_29 lyC_81 rfl dX7_copy_54 (key := 5189) rfl ?_
  refine a_iconst dX7_copy_57 ?_
  refine a_aload_n dX7_copy_58 rfl ?_
  refine a_getR (c0 := 59) fl_X7_29 lyC_79 rfl dX7_copy_59 (key := 5061) rfl ?_
  refine a_iconst dX7_copy_62 ?_
  refine a_bipush dX7_copy_63 bi_10 ?_
  refine a_acopy ac_X7_67 lyC_61 lyC_59 rfl rfl rfl rfl dX7_copy_65 fun σ8 => ?_
  refine a_aload_n dX7_copy_68 rfl ?_
  refine a_aload_n dX7_copy_69 rfl ?_
  refine a_getI fl_X7_51 lyC_81 rfl dX7_copy_70 (key := 5190) rfl ?_
  refine a_putI fl_X7_51 cf_X7 rfl rfl lyC_79 rfl dX7_copy_73 (key := 5062) rfl fun σ9 => ?_
  refine a_aload_n dX7_copy_76 rfl ?_
  refine a_getR (c0 := 65) fl_X7_32 lyC_81 rfl dX7_copy_77 (key := 5191) rfl ?_
  refine a_iconst dX7_copy_80 ?_
  refine a_aload_n dX7_copy_81 rfl ?_
  refine a_getR (c0 := 63) fl_X7_32 lyC_79 rfl dX7_copy_82 (key := 5063) rfl ?_
  refine a_iconst dX7_copy_85 ?_
  refine a_bipush dX7_copy_86 bi_6 ?_
  refine a_acopy ac_X7_67 lyC_65 lyC_63 rfl rfl rfl rfl dX7_copy_88 fun σ10 => ?_
  refine a_aload_n dX7_copy_91 rfl ?_
  refine a_getR (c0 := 69) fl_X7_35 lyC_81 rfl dX7_copy_92 (key := 5192) rfl ?_
  refine a_iconst dX7_copy_95 ?_
  refine a_aload_n dX7_copy_96 rfl ?_
  refine a_getR (c0 := 67) fl_X7_35 lyC_79 rfl dX7_copy_97 (key := 5064) rfl ?_
  refine a_iconst dX7_copy_100 ?_
  refine a_bipush dX7_copy_101 bi_6 ?_
  refine a_acopy ac_X7_67 lyC_69 lyC_67 rfl rfl rfl rfl dX7_copy_103 fun σ11 => ?_
  refine a_aload_n dX7_copy_106 rfl ?_
  refine a_getR (c0 := 73) fl_X7_38 lyC_81 rfl dX7_copy_107 (key := 5193) rfl ?_
  refine a_iconst dX7_copy_110 ?_
  refine a_aload_n dX7_copy_111 rfl ?_
  refine a_getR (c0 := 71) fl_X7_38 lyC_79 rfl dX7_copy_112 (key := 5065) rfl ?_
  refine a_iconst dX7_copy_115 ?_
  refine a_bipush dX7_copy_116 bi_6 ?_
  refine a_acopy ac_X7_67 lyC_73 lyC_71 rfl rfl rfl rfl dX7_copy_118 fun σ12 => ?_
  refine a_aload_n dX7_copy_121 rfl ?_
  refine a_getR (c0 := 77) fl_X7_41 lyC_81 rfl dX7_copy_122 (key := 5194) rfl ?_
  refine a_iconst dX7_copy_125 ?_
  refine a_aload_n dX7_copy_126 rfl ?_
  refine a_getR (c0 := 75) fl_X7_41 lyC_79 rfl dX7_copy_127 (key := 5066) rfl ?_
  refine a_iconst dX7_copy_130 ?_
  refine a_bipush dX7_copy_131 bi_6 ?_
  refine a_acopy ac_X7_67 lyC_77 lyC_75 rfl rfl rfl rfl dX7_copy_133 fun σ13 => ?_
  exact a_vret dX7_copy_136
def f_Lattice_copy_lattice0_lattice3 (F : Nat) (σ : St) : Option (Int × St) := bs (sF σ 1472 (gF σ 1664)) fun σ1 => bs (sF σ1 1473 (gF σ1 1665)) fun σ2 => bs (sF σ2 1474 (gF σ2 1666)) fun σ3 => gd (0 ≤ (0 : Int) ∧ 0 ≤ (0 : Int) ∧ 0 ≤ (60 : Int) ∧ 0 + 60 ≤ 60 ∧ 0 + 60 ≤ 60) (bs (cpA σ3 30 (Int.toNat 0) 27 (Int.toNat 0) (Int.toNat 60)) fun σ4 => some (0, σ4))
set_option maxRecDepth 100000 in
set_option maxHeartbeats 4000000 in
theorem c_Lattice_copy_lattice0_lattice3 {x : Bool} (F : Nat) (σ : St) : Ct 1 0 0 yX2_copy cX2_copy 2 none (LYC x false false) (LYC x false false) [.ref 23, .ref 26] σ (f_Lattice_copy_lattice0_lattice3 F σ) := by
  unfold f_Lattice_copy_lattice0_lattice3
  refine Ct_of (d := 1) (kp := 0) (kd := 0) (own := RX2) (nL := 2) (ret := none) (LY := (LYC x false false)) (LYe := (LYC x false false)) (L := [some (.ref 23), some (.ref 26)]) rfl (by decide +kernel) rfl rfl mf_X7_60.2.2.2.1 rfl fun K => ?_
  refine a_aload_n dX2_copy_0 rfl ?_
  refine a_aload_n dX2_copy_1 rfl ?_
  refine a_getI fl_X2_19 lyC_26 rfl dX2_copy_2 (key := 1664) rfl ?_
  refine a_putI fl_X2_19 cf_X2 rfl rfl lyC_23 rfl dX2_copy_5 (key := 1472) rfl fun σ1 => ?_
  refine a_aload_n dX2_copy_8 rfl ?_
  refine a_aload_n dX2_copy_9 rfl ?_
  refine a_getI fl_X2_27 lyC_26 rfl dX2_copy_10 (key := 1665) rfl ?_
  refine a_putI fl_X2_27 cf_X2 rfl rfl lyC_23 rfl dX2_copy_13 (key := 1473) rfl fun σ2 => ?_
  refine a_aload_n dX2_copy_16 rfl ?_
  refine a_aload_n dX2_copy_17 rfl ?_
  refine a_getI fl_X2_34 lyC_26 rfl dX2_copy_18 (key := 1666) rfl ?_
  refine a_putI fl_X2_34 cf_X2 rfl rfl lyC_23 rfl dX2_copy_21 (key := 1474) rfl fun σ3 => ?_
  refine a_aload_n dX2_copy_24 rfl ?_
  refine a_getR (c0 := 30) fl_X2_9 lyC_26 rfl dX2_copy_25 (key := 1667) rfl ?_
  refine a_iconst dX2_copy_28 ?_
  refine a_aload_n dX2_copy_29 rfl ?_
  refine a_getR (c0 := 27) fl_X2_9 lyC_23 rfl dX2_copy_30 (key := 1475) rfl ?_
  refine a_iconst dX2_copy_33 ?_
  refine a_bipush dX2_copy_34 bi_60 ?_
  refine a_acopy ac_X2_41 lyC_30 lyC_27 rfl rfl rfl rfl dX2_copy_36 fun σ4 => ?_
  exact a_vret dX2_copy_39
def f_Compass_copy_compass0_compass3 (F : Nat) (σ : St) : Option (Int × St) := bs (sF σ 1984 (gF σ 2176)) fun σ1 => gd (0 ≤ (0 : Int) ∧ 0 ≤ (0 : Int) ∧ 0 ≤ (4 : Int) ∧ 0 + 4 ≤ 4 ∧ 0 + 4 ≤ 4) (bs (cpA σ1 38 (Int.toNat 0) 35 (Int.toNat 0) (Int.toNat 4)) fun σ2 => gd (0 ≤ (0 : Int) ∧ 0 ≤ (0 : Int) ∧ 0 ≤ (4 : Int) ∧ 0 + 4 ≤ 4 ∧ 0 + 4 ≤ 4) (bs (cpA σ2 42 (Int.toNat 0) 39 (Int.toNat 0) (Int.toNat 4)) fun σ3 => bs (sF σ3 1987 (gF σ3 2179)) fun σ4 => gd (0 ≤ (0 : Int) ∧ 0 ≤ (0 : Int) ∧ 0 ≤ (8 : Int) ∧ 0 + 8 ≤ 8 ∧ 0 + 8 ≤ 8) (bs (cpA σ4 46 (Int.toNat 0) 43 (Int.toNat 0) (Int.toNat 8)) fun σ5 => gd (0 ≤ (0 : Int) ∧ 0 ≤ (0 : Int) ∧ 0 ≤ (8 : Int) ∧ 0 + 8 ≤ 8 ∧ 0 + 8 ≤ 8) (bs (cpA σ5 50 (Int.toNat 0) 47 (Int.toNat 0) (Int.toNat 8)) fun σ6 => gd (0 ≤ (0 : Int) ∧ 0 ≤ (0 : Int) ∧ 0 ≤ (8 : Int) ∧ 0 + 8 ≤ 8 ∧ 0 + 8 ≤ 8) (bs (cpA σ6 54 (Int.toNat 0) 51 (Int.toNat 0) (Int.toNat 8)) fun σ7 => some (0, σ7))))))
set_option maxRecDepth 100000 in
set_option maxHeartbeats 4000000 in
theorem c_Compass_copy_compass0_compass3 {x : Bool} (F : Nat) (σ : St) : Ct 1 0 0 yX0_copy cX0_copy 2 none (LYC x false false) (LYC x false false) [.ref 31, .ref 34] σ (f_Compass_copy_compass0_compass3 F σ) := by
  unfold f_Compass_copy_compass0_compass3
  refine Ct_of (d := 1) (kp := 0) (kd := 0) (own := RX0) (nL := 2) (ret := none) (LY := (LYC x false false)) (LYe := (LYC x false false)) (L := [some (.ref 31), some (.ref 34)]) rfl (by decide +kernel) rfl rfl mf_X7_64.2.2.2.1 rfl fun K => ?_
  refine a_aload_n dX0_copy_0 rfl ?_
  refine a_aload_n dX0_copy_1 rfl ?_
  refine a_getI fl_X0_31 lyC_34 rfl dX0_copy_2 (key := 2176) rfl ?_
  refine a_putI fl_X0_31 cf_X0 rfl rfl lyC_31 rfl dX0_copy_5 (key := 1984) rfl fun σ1 => ?_
  refine a_aload_n dX0_copy_8 rfl ?_
  refine a_getR (c0 := 38) fl_X0_9 lyC_34 rfl dX0_copy_9 (key := 2177) rfl ?_
  refine a_iconst dX0_copy_12 ?_
  refine a_aload_n dX0_copy_13 rfl ?_
  refine a_getR (c0 := 35) fl_X0_9 lyC_31 rfl dX0_copy_14 (key := 1985) rfl ?_
  refine a_iconst dX0_copy_17 ?_
  refine a_iconst dX0_copy_18 ?_
  refine a_acopy ac_X0_35 lyC_38 lyC_35 rfl rfl rfl rfl dX0_copy_19 fun σ2 => ?_
  refine a_aload_n dX0_copy_22 rfl ?_
  refine a_getR (c0 := 42) fl_X0_15 lyC_34 rfl dX0_copy_23 (key := 2178) rfl ?_
  refine a_iconst dX0_copy_26 ?_
  refine a_aload_n dX0_copy_27 rfl ?_
  refine a_getR (c0 := 39) fl_X0_15 lyC_31 rfl dX0_copy_28 (key := 1986) rfl ?_
  refine a_iconst dX0_copy_31 ?_
  refine a_iconst dX0_copy_32 ?_
  refine a_acopy ac_X0_35 lyC_42 lyC_39 rfl rfl rfl rfl dX0_copy_33 fun σ3 => ?_
  refine a_aload_n dX0_copy_36 rfl ?_
  refine a_aload_n dX0_copy_37 rfl ?_
  refine a_getI fl_X0_41 lyC_34 rfl dX0_copy_38 (key := 2179) rfl ?_
  refine a_putI fl_X0_41 cf_X0 rfl rfl lyC_31 rfl dX0_copy_41 (key := 1987) rfl fun σ4 => ?_
  refine a_aload_n dX0_copy_44 rfl ?_
  refine a_getR (c0 := 46) fl_X0_18 lyC_34 rfl dX0_copy_45 (key := 2180) rfl ?_
  refine a_iconst dX0_copy_48 ?_
  refine a_aload_n dX0_copy_49 rfl ?_
  refine a_getR (c0 := 43) fl_X0_18 lyC_31 rfl dX0_copy_50 (key := 1988) rfl ?_
  refine a_iconst dX0_copy_53 ?_
  refine a_bipush dX0_copy_54 bi_8 ?_
  refine a_acopy ac_X0_35 lyC_46 lyC_43 rfl rfl rfl rfl dX0_copy_56 fun σ5 => ?_
  refine a_aload_n dX0_copy_59 rfl ?_
  refine a_getR (c0 := 50) fl_X0_21 lyC_34 rfl dX0_copy_60 (key := 2181) rfl ?_
  refine a_iconst dX0_copy_63 ?_
  refine a_aload_n dX0_copy_64 rfl ?_
  refine a_getR (c0 := 47) fl_X0_21 lyC_31 rfl dX0_copy_65 (key := 1989) rfl ?_
  refine a_iconst dX0_copy_68 ?_
  refine a_bipush dX0_copy_69 bi_8 ?_
  refine a_acopy ac_X0_35 lyC_50 lyC_47 rfl rfl rfl rfl dX0_copy_71 fun σ6 => ?_
  refine a_aload_n dX0_copy_74 rfl ?_
  refine a_getR (c0 := 54) fl_X0_24 lyC_34 rfl dX0_copy_75 (key := 2182) rfl ?_
  refine a_iconst dX0_copy_78 ?_
  refine a_aload_n dX0_copy_79 rfl ?_
  refine a_getR (c0 := 51) fl_X0_24 lyC_31 rfl dX0_copy_80 (key := 1990) rfl ?_
  refine a_iconst dX0_copy_83 ?_
  refine a_bipush dX0_copy_84 bi_8 ?_
  refine a_acopy ac_X0_35 lyC_54 lyC_51 rfl rfl rfl rfl dX0_copy_86 fun σ7 => ?_
  exact a_vret dX0_copy_89
def f_Scene_copy_scene0_scene3 (F : Nat) (σ : St) : Option (Int × St) := bnd (f_Lattice_copy_lattice0_lattice3 F σ) fun r1 σ2 => bnd (f_Compass_copy_compass0_compass3 F σ2) fun r3 σ4 => bs (sF σ4 5058 (gF σ4 5250)) fun σ5 => bs (sF σ5 5059 (gF σ5 5251)) fun σ6 => gd (0 ≤ (0 : Int) ∧ 0 ≤ (0 : Int) ∧ 0 ≤ (10 : Int) ∧ 0 + 10 ≤ 10 ∧ 0 + 10 ≤ 10) (bs (cpA σ6 58 (Int.toNat 0) 55 (Int.toNat 0) (Int.toNat 10)) fun σ7 => gd (0 ≤ (0 : Int) ∧ 0 ≤ (0 : Int) ∧ 0 ≤ (10 : Int) ∧ 0 + 10 ≤ 10 ∧ 0 + 10 ≤ 10) (bs (cpA σ7 62 (Int.toNat 0) 59 (Int.toNat 0) (Int.toNat 10)) fun σ8 => bs (sF σ8 5062 (gF σ8 5254)) fun σ9 => gd (0 ≤ (0 : Int) ∧ 0 ≤ (0 : Int) ∧ 0 ≤ (6 : Int) ∧ 0 + 6 ≤ 6 ∧ 0 + 6 ≤ 6) (bs (cpA σ9 66 (Int.toNat 0) 63 (Int.toNat 0) (Int.toNat 6)) fun σ10 => gd (0 ≤ (0 : Int) ∧ 0 ≤ (0 : Int) ∧ 0 ≤ (6 : Int) ∧ 0 + 6 ≤ 6 ∧ 0 + 6 ≤ 6) (bs (cpA σ10 70 (Int.toNat 0) 67 (Int.toNat 0) (Int.toNat 6)) fun σ11 => gd (0 ≤ (0 : Int) ∧ 0 ≤ (0 : Int) ∧ 0 ≤ (6 : Int) ∧ 0 + 6 ≤ 6 ∧ 0 + 6 ≤ 6) (bs (cpA σ11 74 (Int.toNat 0) 71 (Int.toNat 0) (Int.toNat 6)) fun σ12 => gd (0 ≤ (0 : Int) ∧ 0 ≤ (0 : Int) ∧ 0 ≤ (6 : Int) ∧ 0 + 6 ≤ 6 ∧ 0 + 6 ≤ 6) (bs (cpA σ12 78 (Int.toNat 0) 75 (Int.toNat 0) (Int.toNat 6)) fun σ13 => some (0, σ13)))))))
set_option maxRecDepth 100000 in
set_option maxHeartbeats 4000000 in
theorem c_Scene_copy_scene0_scene3 {x : Bool} (F : Nat) (σ : St) : Ct 2 0 0 yX7_copy cX7_copy 2 none (LYC x false false) (LYC x false false) [.ref 79, .ref 82] σ (f_Scene_copy_scene0_scene3 F σ) := by
  unfold f_Scene_copy_scene0_scene3
  refine Ct_of (d := 2) (kp := 0) (kd := 0) (own := RX7) (nL := 2) (ret := none) (LY := (LYC x false false)) (LYe := (LYC x false false)) (L := [some (.ref 79), some (.ref 82)]) rfl (by decide +kernel) rfl rfl mf_X10_347.2.2.2.1 rfl fun K => ?_
  refine a_aload_n dX7_copy_0 rfl ?_
  refine a_getR (c0 := 23) fl_X7_12 lyC_79 rfl dX7_copy_1 (key := 5056) rfl ?_
  refine a_aload_n dX7_copy_4 rfl ?_
  refine a_getR (c0 := 26) fl_X7_12 lyC_82 rfl dX7_copy_5 (key := 5248) rfl ?_
  refine a_callVv (as := [.ref 26]) mf_X7_60 lyC_23 rfl (c_Lattice_copy_lattice0_lattice3 F _) LYsame.rf dX7_copy_8 rfl rfl rfl rfl rfl rfl (Or.inl rfl) fun r1 σ2 => ?_
  refine a_aload_n dX7_copy_11 rfl ?_
  refine a_getR (c0 := 31) fl_X7_21 lyC_79 rfl dX7_copy_12 (key := 5057) rfl ?_
  refine a_aload_n dX7_copy_15 rfl ?_
  refine a_getR (c0 := 34) fl_X7_21 lyC_82 rfl dX7_copy_16 (key := 5249) rfl ?_
  refine a_callVv (as := [.ref 34]) mf_X7_64 lyC_31 rfl (c_Compass_copy_compass0_compass3 F _) LYsame.rf dX7_copy_19 rfl rfl rfl rfl rfl rfl (Or.inl rfl) fun r3 σ4 => ?_
  refine a_aload_n dX7_copy_22 rfl ?_
  refine a_aload_n dX7_copy_23 rfl ?_
  refine a_getI fl_X7_44 lyC_82 rfl dX7_copy_24 (key := 5250) rfl ?_
  refine a_putI fl_X7_44 cf_X7 rfl rfl lyC_79 rfl dX7_copy_27 (key := 5058) rfl fun σ5 => ?_
  refine a_aload_n dX7_copy_30 rfl ?_
  refine a_aload_n dX7_copy_31 rfl ?_
  refine a_getI fl_X7_48 lyC_82 rfl dX7_copy_32 (key := 5251) rfl ?_
  refine a_putI fl_X7_48 cf_X7 rfl rfl lyC_79 rfl dX7_copy_35 (key := 5059) rfl fun σ6 => ?_
  refine a_aload_n dX7_copy_38 rfl ?_
  refine a_getR (c0 := 58) fl_X7_25 lyC_82 rfl dX7_copy_39 (key := 5252) rfl ?_
  refine a_iconst dX7_copy_42 ?_
  refine a_aload_n dX7_copy_43 rfl ?_
  refine a_getR (c0 := 55) fl_X7_25 lyC_79 rfl dX7_copy_44 (key := 5060) rfl ?_
  refine a_iconst dX7_copy_47 ?_
  refine a_bipush dX7_copy_48 bi_10 ?_
  refine a_acopy ac_X7_67 lyC_58 lyC_55 rfl rfl rfl rfl dX7_copy_50 fun σ7 => ?_
  refine a_aload_n dX7_copy_53 rfl ?_
  refine a_getR (c0 := 62) fl_X7_29 lyC_82 rfl dX7_copy_54 (key := 5253) rfl ?_
  refine a_iconst dX7_copy_57 ?_
  refine a_aload_n dX7_copy_58 rfl ?_
  refine a_getR (c0 := 59) fl_X7_29 lyC_79 rfl dX7_copy_59 (key := 5061) rfl ?_
  refine a_iconst dX7_copy_62 ?_
  refine a_bipush dX7_copy_63 bi_10 ?_
  refine a_acopy ac_X7_67 lyC_62 lyC_59 rfl rfl rfl rfl dX7_copy_65 fun σ8 => ?_
  refine a_aload_n dX7_copy_68 rfl ?_
  refine a_aload_n dX7_copy_69 rfl ?_
  refine a_getI fl_X7_51 lyC_82 rfl dX7_copy_70 (key := 5254) rfl ?_
  refine a_putI fl_X7_51 cf_X7 rfl rfl lyC_79 rfl dX7_copy_73 (key := 5062) rfl fun σ9 => ?_
  refine a_aload_n dX7_copy_76 rfl ?_
  refine a_getR (c0 := 66) fl_X7_32 lyC_82 rfl dX7_copy_77 (key := 5255) rfl ?_
  refine a_iconst dX7_copy_80 ?_
  refine a_aload_n dX7_copy_81 rfl ?_
  refine a_getR (c0 := 63) fl_X7_32 lyC_79 rfl dX7_copy_82 (key := 5063) rfl ?_
  refine a_iconst dX7_copy_85 ?_
  refine a_bipush dX7_copy_86 bi_6 ?_
  refine a_acopy ac_X7_67 lyC_66 lyC_63 rfl rfl rfl rfl dX7_copy_88 fun σ10 => ?_
  refine a_aload_n dX7_copy_91 rfl ?_
  refine a_getR (c0 := 70) fl_X7_35 lyC_82 rfl dX7_copy_92 (key := 5256) rfl ?_
  refine a_iconst dX7_copy_95 ?_
  refine a_aload_n dX7_copy_96 rfl ?_
  refine a_getR (c0 := 67) fl_X7_35 lyC_79 rfl dX7_copy_97 (key := 5064) rfl ?_
  refine a_iconst dX7_copy_100 ?_
  refine a_bipush dX7_copy_101 bi_6 ?_
  refine a_acopy ac_X7_67 lyC_70 lyC_67 rfl rfl rfl rfl dX7_copy_103 fun σ11 => ?_
  refine a_aload_n dX7_copy_106 rfl ?_
  refine a_getR (c0 := 74) fl_X7_38 lyC_82 rfl dX7_copy_107 (key := 5257) rfl ?_
  refine a_iconst dX7_copy_110 ?_
  refine a_aload_n dX7_copy_111 rfl ?_
  refine a_getR (c0 := 71) fl_X7_38 lyC_79 rfl dX7_copy_112 (key := 5065) rfl ?_
  refine a_iconst dX7_copy_115 ?_
  refine a_bipush dX7_copy_116 bi_6 ?_
  refine a_acopy ac_X7_67 lyC_74 lyC_71 rfl rfl rfl rfl dX7_copy_118 fun σ12 => ?_
  refine a_aload_n dX7_copy_121 rfl ?_
  refine a_getR (c0 := 78) fl_X7_41 lyC_82 rfl dX7_copy_122 (key := 5258) rfl ?_
  refine a_iconst dX7_copy_125 ?_
  refine a_aload_n dX7_copy_126 rfl ?_
  refine a_getR (c0 := 75) fl_X7_41 lyC_79 rfl dX7_copy_127 (key := 5066) rfl ?_
  refine a_iconst dX7_copy_130 ?_
  refine a_bipush dX7_copy_131 bi_6 ?_
  refine a_acopy ac_X7_67 lyC_78 lyC_75 rfl rfl rfl rfl dX7_copy_133 fun σ13 => ?_
  exact a_vret dX7_copy_136
def f_W_restore (F : Nat) (σ : St) (x1 : Int) : Option (Int × St) := gd (rng x1) (if x1 < 0 then some (0, σ) else gd (rng x1 ∧ rng 2) (if (2 : Int) ≤ x1 then some (0, σ) else gd (inb x1 2) (gd (rng (gA σ 84 (Int.toNat x1))) (if (gA σ 84 (Int.toNat x1)) = 0 then some (0, σ) else gd (inb x1 2) (if x1 = 0 then bnd (f_Scene_copy_scene0_scene2 F σ) fun r1 σ2 => some (1, σ2) else bnd (f_Scene_copy_scene0_scene3 F σ) fun r3 σ4 => some (1, σ4))))))
set_option maxRecDepth 100000 in
set_option maxHeartbeats 4000000 in
theorem c_W_restore {x : Bool} (F : Nat) (σ : St) (x1 : Int) : Ct 3 0 1 yX10_restore cX10_restore 2 (some .boolean) (LYC x false false) (LYC x false false) [.ref 0, vi x1] σ (f_W_restore F σ x1) := by
  unfold f_W_restore
  refine Ct_of (d := 3) (kp := 0) (kd := 1) (own := RX10) (nL := 2) (ret := (some .boolean)) (LY := (LYC x false false)) (LYe := (LYC x false false)) (L := [some (.ref 0), some (vi x1)]) rfl (by decide +kernel) rfl rfl mf_L_197.2.2.2.1 rfl fun K => ?_
  refine a_iload_n dX10_restore_0 rfl ?_
  refine a_if_lt dX10_restore_1 rfl (fun _ => ?_) (fun _ => ?_)
  · refine a_iconst dX10_restore_18 ?_
    exact a_zretc (by decide) dX10_restore_19
  refine a_iload_n dX10_restore_4 rfl ?_
  refine a_iconst dX10_restore_5 ?_
  refine a_icmp_ge dX10_restore_6 rfl (fun _ => ?_) (fun _ => ?_)
  · refine a_iconst dX10_restore_18 ?_
    exact a_zretc (by decide) dX10_restore_19
  refine a_aload_n dX10_restore_9 rfl ?_
  refine a_getR (c0 := 84) fl_X10_37 lyC_0 rfl dX10_restore_10 (key := 5) rfl ?_
  refine a_iload_n dX10_restore_13 rfl ?_
  refine a_zald lyC_84 rfl dX10_restore_14 ?_
  refine a_if_ne dX10_restore_15 rfl (fun _ => ?_) (fun _ => ?_)
  · refine a_aload_n dX10_restore_20 rfl ?_
    refine a_getR (c0 := 79) fl_X10_26 lyC_0 rfl dX10_restore_21 (key := 2) rfl ?_
    refine a_aload_n dX10_restore_24 rfl ?_
    refine a_getR (c0 := 83) fl_X10_33 lyC_0 rfl dX10_restore_25 (key := 4) rfl ?_
    refine a_iload_n dX10_restore_28 rfl ?_
    refine a_aaldS lyC_83 rfl dX10_restore_29 fun hi5 => ?_
    refine a_if (fun _ => ?_) (fun _ => ?_)
    · refine a_ref (q' := 81) (by omega) ?_
      refine a_callVv (as := [.ref 81]) mf_X10_347 lyC_79 rfl (c_Scene_copy_scene0_scene2 F _) LYsame.rf dX10_restore_30 rfl rfl rfl rfl rfl rfl (Or.inl rfl) fun r1 σ2 => ?_
      refine a_iconst dX10_restore_33 ?_
      exact a_zretc (by decide) dX10_restore_34
    refine a_ref (q' := 82) (by omega) ?_
    refine a_callVv (as := [.ref 82]) mf_X10_347 lyC_79 rfl (c_Scene_copy_scene0_scene3 F _) LYsame.rf dX10_restore_30 rfl rfl rfl rfl rfl rfl (Or.inl rfl) fun r3 σ4 => ?_
    refine a_iconst dX10_restore_33 ?_
    exact a_zretc (by decide) dX10_restore_34
  refine a_iconst dX10_restore_18 ?_
  exact a_zretc (by decide) dX10_restore_19
def f_W_count (F : Nat) (σ : St) (x1 : Int) : Option (Int × St) := gd (rng x1) (if x1 = 0 then some ((gF σ 1472), σ) else (if x1 = 1 then some ((gF σ 1473), σ) else (if x1 = 2 then some ((gF σ 1474), σ) else (if x1 = 3 then some ((gF σ 5059), σ) else (if x1 = 4 then some ((gF σ 5062), σ) else (if x1 = 5 then some ((gF σ 1984), σ) else (if x1 = 6 then some ((gF σ 1987), σ) else (if x1 = 7 then some ((gF σ 5058), σ) else (if x1 = 8 then some ((gF σ 65), σ) else (some ((-1), σ)))))))))))
set_option maxRecDepth 100000 in
set_option maxHeartbeats 4000000 in
theorem c_W_count {x : Bool} (F : Nat) (σ : St) (x1 : Int) : Ct 1 0 1 yX10_count cX10_count 2 (some .int) (LYC x false false) (LYC x false false) [.ref 0, vi x1] σ (f_W_count F σ x1) := by
  unfold f_W_count
  refine Ct_of (d := 1) (kp := 0) (kd := 1) (own := RX10) (nL := 2) (ret := (some .int)) (LY := (LYC x false false)) (LYe := (LYC x false false)) (L := [some (.ref 0), some (vi x1)]) rfl (by decide +kernel) rfl rfl mf_L_201.2.2.2.1 rfl fun K => ?_
  refine a_iload_n dX10_count_0 rfl ?_
  refine a_gd fun hsw => ?_
  refine a_tsw_in dX10_count_1 (by decide) (by decide) (by decide) rfl rfl ?_ fun hs0 => ?_
  · refine a_aload_n dX10_count_52 rfl ?_
    refine a_getR (c0 := 79) fl_X10_26 lyC_0 rfl dX10_count_53 (key := 2) rfl ?_
    refine a_getR (c0 := 23) fl_X10_153 lyC_79 rfl dX10_count_56 (key := 5056) rfl ?_
    refine a_getI fl_X10_185 lyC_23 rfl dX10_count_59 (key := 1472) rfl ?_
    exact a_iret dX10_count_62
  refine a_tsw_in dX10_count_1 (by decide) (by decide) (by decide) rfl rfl ?_ fun hs1 => ?_
  · refine a_aload_n dX10_count_63 rfl ?_
    refine a_getR (c0 := 79) fl_X10_26 lyC_0 rfl dX10_count_64 (key := 2) rfl ?_
    refine a_getR (c0 := 23) fl_X10_153 lyC_79 rfl dX10_count_67 (key := 5056) rfl ?_
    refine a_getI fl_X10_178 lyC_23 rfl dX10_count_70 (key := 1473) rfl ?_
    exact a_iret dX10_count_73
  refine a_tsw_in dX10_count_1 (by decide) (by decide) (by decide) rfl rfl ?_ fun hs2 => ?_
  · refine a_aload_n dX10_count_74 rfl ?_
    refine a_getR (c0 := 79) fl_X10_26 lyC_0 rfl dX10_count_75 (key := 2) rfl ?_
    refine a_getR (c0 := 23) fl_X10_153 lyC_79 rfl dX10_count_78 (key := 5056) rfl ?_
    refine a_getI fl_X10_351 lyC_23 rfl dX10_count_81 (key := 1474) rfl ?_
    exact a_iret dX10_count_84
  refine a_tsw_in dX10_count_1 (by decide) (by decide) (by decide) rfl rfl ?_ fun hs3 => ?_
  · refine a_aload_n dX10_count_85 rfl ?_
    refine a_getR (c0 := 79) fl_X10_26 lyC_0 rfl dX10_count_86 (key := 2) rfl ?_
    refine a_getI fl_X10_172 lyC_79 rfl dX10_count_89 (key := 5059) rfl ?_
    exact a_iret dX10_count_92
  refine a_tsw_in dX10_count_1 (by decide) (by decide) (by decide) rfl rfl ?_ fun hs4 => ?_
  · refine a_aload_n dX10_count_93 rfl ?_
    refine a_getR (c0 := 79) fl_X10_26 lyC_0 rfl dX10_count_94 (key := 2) rfl ?_
    refine a_getI fl_X10_134 lyC_79 rfl dX10_count_97 (key := 5062) rfl ?_
    exact a_iret dX10_count_100
  refine a_tsw_in dX10_count_1 (by decide) (by decide) (by decide) rfl rfl ?_ fun hs5 => ?_
  · refine a_aload_n dX10_count_101 rfl ?_
    refine a_getR (c0 := 79) fl_X10_26 lyC_0 rfl dX10_count_102 (key := 2) rfl ?_
    refine a_getR (c0 := 31) fl_X10_316 lyC_79 rfl dX10_count_105 (key := 5057) rfl ?_
    refine a_getI fl_X10_354 lyC_31 rfl dX10_count_108 (key := 1984) rfl ?_
    exact a_iret dX10_count_111
  refine a_tsw_in dX10_count_1 (by decide) (by decide) (by decide) rfl rfl ?_ fun hs6 => ?_
  · refine a_aload_n dX10_count_112 rfl ?_
    refine a_getR (c0 := 79) fl_X10_26 lyC_0 rfl dX10_count_113 (key := 2) rfl ?_
    refine a_getR (c0 := 31) fl_X10_316 lyC_79 rfl dX10_count_116 (key := 5057) rfl ?_
    refine a_getI fl_X10_357 lyC_31 rfl dX10_count_119 (key := 1987) rfl ?_
    exact a_iret dX10_count_122
  refine a_tsw_in dX10_count_1 (by decide) (by decide) (by decide) rfl rfl ?_ fun hs7 => ?_
  · refine a_aload_n dX10_count_123 rfl ?_
    refine a_getR (c0 := 79) fl_X10_26 lyC_0 rfl dX10_count_124 (key := 2) rfl ?_
    refine a_getI fl_X10_150 lyC_79 rfl dX10_count_127 (key := 5058) rfl ?_
    exact a_iret dX10_count_130
  refine a_tsw_in dX10_count_1 (by decide) (by decide) (by decide) rfl rfl ?_ fun hs8 => ?_
  · refine a_aload_n dX10_count_131 rfl ?_
    refine a_getR (c0 := 1) fl_X10_10 lyC_0 rfl dX10_count_132 (key := 0) rfl ?_
    refine a_getI fl_X10_108 lyC_1 rfl dX10_count_135 (key := 65) rfl ?_
    exact a_iret dX10_count_138
  refine a_tsw_out dX10_count_1 hsw (by omega) rfl ?_
  refine a_iconst dX10_count_139 ?_
  exact a_iret dX10_count_140
