def f_W_wave (F : Nat) (σ : St) (x1 x2 : Int) : Option (Int × St) := bnd (f_Lattice_has_lattice0 F σ x1) fun r1 σ2 => gd (rng r1) (if r1 = 0 then some ((-1), σ2) else gd (rng x2) (if x2 < 0 then some ((-1), σ2) else gd (rng x2 ∧ rng 99) (if x2 ≤ 99 then bnd (f_Lattice_waveAt_lattice0 F σ2 x1 x2) fun r3 σ4 => some (r3, σ4) else some ((-1), σ2))))
set_option maxRecDepth 100000 in
set_option maxHeartbeats 4000000 in
theorem c_W_wave {x : Bool} (F : Nat) (σ : St) (x1 x2 : Int) : Ct 2 0 1 yX10_wave cX10_wave 3 (some .int) (LYC x false false) (LYC x false false) [.ref 0, vi x1, vi x2] σ (f_W_wave F σ x1 x2) := by
  unfold f_W_wave
  refine Ct_of (d := 2) (kp := 0) (kd := 1) (own := RX10) (nL := 3) (ret := (some .int)) (LY := (LYC x false false)) (LYe := (LYC x false false)) (L := [some (.ref 0), some (vi x1), some (vi x2)]) rfl (by decide +kernel) rfl rfl mf_L_61.2.2.2.1 rfl fun K => ?_
  refine a_aload_n dX10_wave_0 rfl ?_
  refine a_getR (c0 := 79) fl_X10_26 lyC_0 rfl dX10_wave_1 (key := 2) rfl ?_
  refine a_getR (c0 := 23) fl_X10_153 lyC_79 rfl dX10_wave_4 (key := 5056) rfl ?_
  refine a_iload_n dX10_wave_7 rfl ?_
  refine a_callVi (as := [vi x1]) mf_X10_157 lyC_23 rfl (c_Lattice_has_lattice0 F _ _) LYsame.rf dX10_wave_8 rfl rfl rfl rfl rfl rfl (Or.inl rfl) fun r1 σ2 => ?_
  refine a_if_eq dX10_wave_11 rfl (fun _ => ?_) (fun _ => ?_)
  · refine a_iconst dX10_wave_24 ?_
    exact a_iret dX10_wave_25
  refine a_iload_n dX10_wave_14 rfl ?_
  refine a_if_lt dX10_wave_15 rfl (fun _ => ?_) (fun _ => ?_)
  · refine a_iconst dX10_wave_24 ?_
    exact a_iret dX10_wave_25
  refine a_iload_n dX10_wave_18 rfl ?_
  refine a_bipush dX10_wave_19 bi_99 ?_
  refine a_icmp_le dX10_wave_21 rfl (fun _ => ?_) (fun _ => ?_)
  · refine a_aload_n dX10_wave_26 rfl ?_
    refine a_getR (c0 := 79) fl_X10_26 lyC_0 rfl dX10_wave_27 (key := 2) rfl ?_
    refine a_getR (c0 := 23) fl_X10_153 lyC_79 rfl dX10_wave_30 (key := 5056) rfl ?_
    refine a_iload_n dX10_wave_33 rfl ?_
    refine a_iload_n dX10_wave_34 rfl ?_
    refine a_callVi (as := [vi x1, vi x2]) mf_X10_162 lyC_23 rfl (c_Lattice_waveAt_lattice0 F _ _ _) LYsame.rf dX10_wave_35 rfl rfl rfl rfl rfl rfl (Or.inl rfl) fun r3 σ4 => ?_
    exact a_iret dX10_wave_38
  refine a_iconst dX10_wave_24 ?_
  exact a_iret dX10_wave_25
def b_Scene_readingOf_scene0_4 (F : Nat) (self : St → Int → Int → Int → Option (Int × St)) (σ : St) (x1 x2 x3 : Int) : Option (Int × St) := gd (rng x3 ∧ rng (gF σ 5062)) (if (gF σ 5062) ≤ x3 then gd (inb x1 10) (bnd (f_W_product F σ (gA σ 59 (Int.toNat x1)) x2 (gF σ 1473)) fun r1 σ2 => some (r1, σ2)) else gd (inb x3 6) (bnd (f_Scene_directionOf_scene0 F σ x3) fun r3 σ4 => gd (inb x1 10) (bnd (f_Lattice_waveAt_lattice0 F σ4 r3 (gA σ4 55 (Int.toNat x1))) fun r5 σ6 => bnd (f_W_product F σ6 (gA σ 67 (Int.toNat x3)) r5 (gF σ6 1473)) fun r7 σ8 => bv (x2 + r7) fun x2_9 => bv (x3 + 1) fun x3_10 => self σ8 x1 x2_9 x3_10)))
def l_Scene_readingOf_scene0_4 (F : Nat) : Nat → St → Int → Int → Int → Option (Int × St)
  | 0 => fun _ _ _ _ => none
  | n + 1 => fun σ x1 x2 x3 => b_Scene_readingOf_scene0_4 F (l_Scene_readingOf_scene0_4 F n) σ x1 x2 x3
def f_Scene_readingOf_scene0 (F : Nat) (σ : St) (x1 : Int) : Option (Int × St) := l_Scene_readingOf_scene0_4 F F σ x1 0 0
set_option maxRecDepth 100000 in
set_option maxHeartbeats 4000000 in
theorem cb_Scene_readingOf_scene0_4 {K : KX} {x : Bool} (F : Nat) (self : St → Int → Int → Int → Option (Int × St)) (hself : ∀ σ x1 x2 x3, WA 2 0 1 cX7_readingOf RX7 4 (some .int) (LYC x false false) (LYC x false false) K 4 [some (.ref 79), some (vi x1), some (vi x2), some (vi x3)] [] σ (self σ x1 x2 x3)) (σ : St) (x1 x2 x3 : Int) : WA 2 0 1 cX7_readingOf RX7 4 (some .int) (LYC x false false) (LYC x false false) K 4 [some (.ref 79), some (vi x1), some (vi x2), some (vi x3)] [] σ (b_Scene_readingOf_scene0_4 F self σ x1 x2 x3) := by
  unfold b_Scene_readingOf_scene0_4
  refine a_iload_n dX7_readingOf_4 rfl ?_
  refine a_aload_n dX7_readingOf_5 rfl ?_
  refine a_getI fl_X7_51 lyC_79 rfl dX7_readingOf_6 (key := 5062) rfl ?_
  refine a_icmp_ge dX7_readingOf_9 rfl (fun _ => ?_) (fun _ => ?_)
  · refine a_aload_n dX7_readingOf_55 rfl ?_
    refine a_getR (c0 := 59) fl_X7_29 lyC_79 rfl dX7_readingOf_56 (key := 5061) rfl ?_
    refine a_iload_n dX7_readingOf_59 rfl ?_
    refine a_iald lyC_59 rfl dX7_readingOf_60 ?_
    refine a_iload_n dX7_readingOf_61 rfl ?_
    refine a_aload_n dX7_readingOf_62 rfl ?_
    refine a_getR (c0 := 23) fl_X7_12 lyC_79 rfl dX7_readingOf_63 (key := 5056) rfl ?_
    refine a_getI fl_X7_80 lyC_23 rfl dX7_readingOf_66 (key := 1473) rfl ?_
    refine a_callNi (as := [vi (gA σ 59 (Int.toNat x1)), vi x2, vi (gF σ 1473)]) mf_X7_83 (c_W_product F _ _ _ _) LYsame.rf dX7_readingOf_69 rfl rfl rfl rfl rfl rfl (Or.inl rfl) fun r1 σ2 => ?_
    exact a_iret dX7_readingOf_72
  refine a_iload_n dX7_readingOf_12 rfl ?_
  refine a_aload_n dX7_readingOf_13 rfl ?_
  refine a_getR (c0 := 67) fl_X7_35 lyC_79 rfl dX7_readingOf_14 (key := 5064) rfl ?_
  refine a_iload_n dX7_readingOf_17 rfl ?_
  refine a_iald lyC_67 rfl dX7_readingOf_18 ?_
  refine a_aload_n dX7_readingOf_19 rfl ?_
  refine a_getR (c0 := 23) fl_X7_12 lyC_79 rfl dX7_readingOf_20 (key := 5056) rfl ?_
  refine a_aload_n dX7_readingOf_23 rfl ?_
  refine a_iload_n dX7_readingOf_24 rfl ?_
  refine a_callVi (as := [vi x3]) mf_X7_87 lyC_79 rfl (c_Scene_directionOf_scene0 F _ _) LYsame.rf dX7_readingOf_25 rfl rfl rfl rfl rfl rfl (Or.inl rfl) fun r3 σ4 => ?_
  refine a_aload_n dX7_readingOf_28 rfl ?_
  refine a_getR (c0 := 55) fl_X7_25 lyC_79 rfl dX7_readingOf_29 (key := 5060) rfl ?_
  refine a_iload_n dX7_readingOf_32 rfl ?_
  refine a_iald lyC_55 rfl dX7_readingOf_33 ?_
  refine a_callVi (as := [vi r3, vi (gA σ4 55 (Int.toNat x1))]) mf_X7_76 lyC_23 rfl (c_Lattice_waveAt_lattice0 F _ _ _) LYsame.rf dX7_readingOf_34 rfl rfl rfl rfl rfl rfl (Or.inl rfl) fun r5 σ6 => ?_
  refine a_aload_n dX7_readingOf_37 rfl ?_
  refine a_getR (c0 := 23) fl_X7_12 lyC_79 rfl dX7_readingOf_38 (key := 5056) rfl ?_
  refine a_getI fl_X7_80 lyC_23 rfl dX7_readingOf_41 (key := 1473) rfl ?_
  refine a_callNi (as := [vi (gA σ 67 (Int.toNat x3)), vi r5, vi (gF σ6 1473)]) mf_X7_83 (c_W_product F _ _ _ _) LYsame.rf dX7_readingOf_44 rfl rfl rfl rfl rfl rfl (Or.inl rfl) fun r7 σ8 => ?_
  refine a_iadd dX7_readingOf_47 ?_
  refine a_bv fun x2_9 ex2_9 => ?_
  refine a_istore_n (y := x2_9) (L' := [some (.ref 79), some (vi x1), some (vi x2_9), some (vi x3)]) dX7_readingOf_48 ex2_9 rfl rfl rfl ?_
  refine a_bv fun x3_10 ex3_10 => ?_
  refine a_iinc (y := x3_10) (L' := [some (.ref 79), some (vi x1), some (vi x2_9), some (vi x3_10)]) dX7_readingOf_49 rfl ex3_10 rfl rfl rfl ?_
  refine a_goto dX7_readingOf_52 rfl ?_
  exact hself _ _ _ _
set_option maxRecDepth 100000 in
set_option maxHeartbeats 4000000 in
theorem cl_Scene_readingOf_scene0_4 {K : KX} {x : Bool} (F : Nat) : ∀ (n : Nat) (σ : St) (x1 x2 x3 : Int), WA 2 0 1 cX7_readingOf RX7 4 (some .int) (LYC x false false) (LYC x false false) K 4 [some (.ref 79), some (vi x1), some (vi x2), some (vi x3)] [] σ (l_Scene_readingOf_scene0_4 F n σ x1 x2 x3)
  | 0, _, _, _, _ => a_none
  | n + 1, σ, x1, x2, x3 => cb_Scene_readingOf_scene0_4 F _ (cl_Scene_readingOf_scene0_4 F n) σ x1 x2 x3
set_option maxRecDepth 100000 in
set_option maxHeartbeats 4000000 in
theorem c_Scene_readingOf_scene0 {x : Bool} (F : Nat) (σ : St) (x1 : Int) : Ct 2 0 1 yX7_readingOf cX7_readingOf 4 (some .int) (LYC x false false) (LYC x false false) [.ref 79, vi x1] σ (f_Scene_readingOf_scene0 F σ x1) := by
  unfold f_Scene_readingOf_scene0
  refine Ct_of (d := 2) (kp := 0) (kd := 1) (own := RX7) (nL := 4) (ret := (some .int)) (LY := (LYC x false false)) (LYe := (LYC x false false)) (L := [some (.ref 79), some (vi x1), none, none]) rfl (by decide +kernel) rfl rfl mf_X10_166.2.2.2.1 rfl fun K => ?_
  refine a_iconst dX7_readingOf_0 ?_
  refine a_istore_n (L' := [some (.ref 79), some (vi x1), some (vi 0), none]) dX7_readingOf_1 rfl rfl rfl rfl ?_
  refine a_iconst dX7_readingOf_2 ?_
  refine a_istore_n (L' := [some (.ref 79), some (vi x1), some (vi 0), some (vi 0)]) dX7_readingOf_3 rfl rfl rfl rfl ?_
  exact cl_Scene_readingOf_scene0_4 F F _ _ _ _
def f_W_reading (F : Nat) (σ : St) (x1 : Int) : Option (Int × St) := bnd (f_Scene_hasHearer_scene0 F σ x1) fun r1 σ2 => gd (rng r1) (if r1 = 0 then some ((-1), σ2) else bnd (f_Scene_readingOf_scene0 F σ2 x1) fun r3 σ4 => some (r3, σ4))
set_option maxRecDepth 100000 in
set_option maxHeartbeats 4000000 in
theorem c_W_reading {x : Bool} (F : Nat) (σ : St) (x1 : Int) : Ct 3 0 1 yX10_reading cX10_reading 2 (some .int) (LYC x false false) (LYC x false false) [.ref 0, vi x1] σ (f_W_reading F σ x1) := by
  unfold f_W_reading
  refine Ct_of (d := 3) (kp := 0) (kd := 1) (own := RX10) (nL := 2) (ret := (some .int)) (LY := (LYC x false false)) (LYe := (LYC x false false)) (L := [some (.ref 0), some (vi x1)]) rfl (by decide +kernel) rfl rfl mf_L_65.2.2.2.1 rfl fun K => ?_
  refine a_aload_n dX10_reading_0 rfl ?_
  refine a_getR (c0 := 79) fl_X10_26 lyC_0 rfl dX10_reading_1 (key := 2) rfl ?_
  refine a_iload_n dX10_reading_4 rfl ?_
  refine a_callVi (as := [vi x1]) mf_X10_121 lyC_79 rfl (c_Scene_hasHearer_scene0 F _ _) LYsame.rf dX10_reading_5 rfl rfl rfl rfl rfl rfl (Or.inl rfl) fun r1 σ2 => ?_
  refine a_if_eq dX10_reading_8 rfl (fun _ => ?_) (fun _ => ?_)
  · refine a_iconst dX10_reading_22 ?_
    exact a_iret dX10_reading_23
  refine a_aload_n dX10_reading_11 rfl ?_
  refine a_getR (c0 := 79) fl_X10_26 lyC_0 rfl dX10_reading_12 (key := 2) rfl ?_
  refine a_iload_n dX10_reading_15 rfl ?_
  refine a_callVi (as := [vi x1]) mf_X10_166 lyC_79 rfl (c_Scene_readingOf_scene0 F _ _) LYsame.rf dX10_reading_16 rfl rfl rfl rfl rfl rfl (Or.inl rfl) fun r3 σ4 => ?_
  refine a_goto dX10_reading_19 rfl ?_
  exact a_iret dX10_reading_23
def f_Lattice_waveBack_lattice0 (F : Nat) (σ : St) (x1 x2 : Int) : Option (Int × St) := gd (rng (((gF σ 1472) - x1) * x2) ∧ rng (gF σ 1472) ∧ (gF σ 1472) ≠ (0 : Int)) (bv (Int.tmod (((gF σ 1472) - x1) * x2) (gF σ 1472)) fun t1 => gd (inb t1 60) (some ((gA σ 27 (Int.toNat t1)), σ)))
set_option maxRecDepth 100000 in
set_option maxHeartbeats 4000000 in
theorem c_Lattice_waveBack_lattice0 {x : Bool} (F : Nat) (σ : St) (x1 x2 : Int) : Ct 1 0 1 yX2_waveBack cX2_waveBack 3 (some .int) (LYC x false false) (LYC x false false) [.ref 23, vi x1, vi x2] σ (f_Lattice_waveBack_lattice0 F σ x1 x2) := by
  unfold f_Lattice_waveBack_lattice0
  refine Ct_of (d := 1) (kp := 0) (kd := 1) (own := RX2) (nL := 3) (ret := (some .int)) (LY := (LYC x false false)) (LYe := (LYC x false false)) (L := [some (.ref 23), some (vi x1), some (vi x2)]) rfl (by decide +kernel) rfl rfl mf_X10_313.2.2.2.1 rfl fun K => ?_
  refine a_aload_n dX2_waveBack_0 rfl ?_
  refine a_getR (c0 := 27) fl_X2_9 lyC_23 rfl dX2_waveBack_1 (key := 1475) rfl ?_
  refine a_aload_n dX2_waveBack_4 rfl ?_
  refine a_getI fl_X2_19 lyC_23 rfl dX2_waveBack_5 (key := 1472) rfl ?_
  refine a_iload_n dX2_waveBack_8 rfl ?_
  refine a_isub dX2_waveBack_9 ?_
  refine a_iload_n dX2_waveBack_10 rfl ?_
  refine a_imul dX2_waveBack_11 ?_
  refine a_aload_n dX2_waveBack_12 rfl ?_
  refine a_getI fl_X2_19 lyC_23 rfl dX2_waveBack_13 (key := 1472) rfl ?_
  refine a_irem dX2_waveBack_16 (fun _ => ?_)
  refine a_bvi fun t1 => ?_
  refine a_iald lyC_27 rfl dX2_waveBack_17 ?_
  exact a_iret dX2_waveBack_18
def b_Scene_flockCover_scene0_9 (F : Nat) (self : St → Int → Int → Int → Int → Int → Int → Option (Int × St)) (σ : St) (x1 x2 x3 x4 x5 x6 : Int) : Option (Int × St) := gd (rng x6 ∧ rng (gF σ 5062)) (if (gF σ 5062) ≤ x6 then bnd (f_W_product F σ x4 x5 (gF σ 1473)) fun r1 σ2 => some (r1, σ2) else gd (inb x6 6) (gd (rng (gA σ 75 (Int.toNat x6)) ∧ rng x1) (if (gA σ 75 (Int.toNat x6)) = x1 then bnd (f_Scene_directionOf_scene0 F σ x6) fun r4 σ5 => gd (inb x6 6) (bnd (f_Lattice_waveAt_lattice0 F σ5 r4 x2) fun r6 σ7 => bnd (f_W_product F σ7 (gA σ5 67 (Int.toNat x6)) r6 (gF σ7 1473)) fun r8 σ9 => bv (x4 + r8) fun x4_10 => gd (inb x6 6) (bnd (f_Lattice_waveBack_lattice0 F σ9 r4 x3) fun r11 σ12 => bnd (f_W_product F σ12 (gA σ9 67 (Int.toNat x6)) r11 (gF σ12 1473)) fun r13 σ14 => bv (x5 + r13) fun x5_15 => bv (x6 + 1) fun x6_16 => self σ14 x1 x2 x3 x4_10 x5_15 x6_16)) else bv (x6 + 1) fun x6_3 => self σ x1 x2 x3 x4 x5 x6_3)))
def l_Scene_flockCover_scene0_9 (F : Nat) : Nat → St → Int → Int → Int → Int → Int → Int → Option (Int × St)
  | 0 => fun _ _ _ _ _ _ _ => none
  | n + 1 => fun σ x1 x2 x3 x4 x5 x6 => b_Scene_flockCover_scene0_9 F (l_Scene_flockCover_scene0_9 F n) σ x1 x2 x3 x4 x5 x6
def f_Scene_flockCover_scene0 (F : Nat) (σ : St) (x1 x2 x3 : Int) : Option (Int × St) := l_Scene_flockCover_scene0_9 F F σ x1 x2 x3 0 0 x1
set_option maxRecDepth 100000 in
set_option maxHeartbeats 4000000 in
theorem cb_Scene_flockCover_scene0_9 {K : KX} {x : Bool} (F : Nat) (self : St → Int → Int → Int → Int → Int → Int → Option (Int × St)) (hself : ∀ σ x1 x2 x3 x4 x5 x6, WA 2 0 1 cX7_flockCover RX7 8 (some .int) (LYC x false false) (LYC x false false) K 9 [some (.ref 79), some (vi x1), some (vi x2), some (vi x3), some (vi x4), some (vi x5), some (vi x6), none] [] σ (self σ x1 x2 x3 x4 x5 x6)) (σ : St) (x1 x2 x3 x4 x5 x6 : Int) : WA 2 0 1 cX7_flockCover RX7 8 (some .int) (LYC x false false) (LYC x false false) K 9 [some (.ref 79), some (vi x1), some (vi x2), some (vi x3), some (vi x4), some (vi x5), some (vi x6), none] [] σ (b_Scene_flockCover_scene0_9 F self σ x1 x2 x3 x4 x5 x6) := by
  unfold b_Scene_flockCover_scene0_9
  refine a_iload dX7_flockCover_9 rfl ?_
  refine a_aload_n dX7_flockCover_11 rfl ?_
  refine a_getI fl_X7_51 lyC_79 rfl dX7_flockCover_12 (key := 5062) rfl ?_
  refine a_icmp_ge dX7_flockCover_15 rfl (fun _ => ?_) (fun _ => ?_)
  · refine a_iload dX7_flockCover_107 rfl ?_
    refine a_iload dX7_flockCover_109 rfl ?_
    refine a_aload_n dX7_flockCover_111 rfl ?_
    refine a_getR (c0 := 23) fl_X7_12 lyC_79 rfl dX7_flockCover_112 (key := 5056) rfl ?_
    refine a_getI fl_X7_80 lyC_23 rfl dX7_flockCover_115 (key := 1473) rfl ?_
    refine a_callNi (as := [vi x4, vi x5, vi (gF σ 1473)]) mf_X7_83 (c_W_product F _ _ _ _) LYsame.rf dX7_flockCover_118 rfl rfl rfl rfl rfl rfl (Or.inl rfl) fun r1 σ2 => ?_
    exact a_iret dX7_flockCover_121
  refine a_aload_n dX7_flockCover_18 rfl ?_
  refine a_getR (c0 := 75) fl_X7_41 lyC_79 rfl dX7_flockCover_19 (key := 5066) rfl ?_
  refine a_iload dX7_flockCover_22 rfl ?_
  refine a_iald lyC_75 rfl dX7_flockCover_24 ?_
  refine a_iload_n dX7_flockCover_25 rfl ?_
  refine a_icmp_ne dX7_flockCover_26 rfl (fun _ => ?_) (fun _ => ?_)
  · refine a_bv fun x6_3 ex6_3 => ?_
    refine a_iinc (y := x6_3) (L' := [some (.ref 79), some (vi x1), some (vi x2), some (vi x3), some (vi x4), some (vi x5), some (vi x6_3), none]) dX7_flockCover_101 rfl ex6_3 rfl rfl rfl ?_
    refine a_goto dX7_flockCover_104 rfl ?_
    exact hself _ _ _ _ _ _ _
  refine a_aload_n dX7_flockCover_29 rfl ?_
  refine a_iload dX7_flockCover_30 rfl ?_
  refine a_callVi (as := [vi x6]) mf_X7_87 lyC_79 rfl (c_Scene_directionOf_scene0 F _ _) LYsame.rf dX7_flockCover_32 rfl rfl rfl rfl rfl rfl (Or.inl rfl) fun r4 σ5 => ?_
  refine a_istore (L' := [some (.ref 79), some (vi x1), some (vi x2), some (vi x3), some (vi x4), some (vi x5), some (vi x6), some (vi r4)]) dX7_flockCover_35 rfl rfl rfl rfl ?_
  refine a_iload dX7_flockCover_37 rfl ?_
  refine a_aload_n dX7_flockCover_39 rfl ?_
  refine a_getR (c0 := 67) fl_X7_35 lyC_79 rfl dX7_flockCover_40 (key := 5064) rfl ?_
  refine a_iload dX7_flockCover_43 rfl ?_
  refine a_iald lyC_67 rfl dX7_flockCover_45 ?_
  refine a_aload_n dX7_flockCover_46 rfl ?_
  refine a_getR (c0 := 23) fl_X7_12 lyC_79 rfl dX7_flockCover_47 (key := 5056) rfl ?_
  refine a_iload dX7_flockCover_50 rfl ?_
  refine a_iload_n dX7_flockCover_52 rfl ?_
  refine a_callVi (as := [vi r4, vi x2]) mf_X7_76 lyC_23 rfl (c_Lattice_waveAt_lattice0 F _ _ _) LYsame.rf dX7_flockCover_53 rfl rfl rfl rfl rfl rfl (Or.inl rfl) fun r6 σ7 => ?_
  refine a_aload_n dX7_flockCover_56 rfl ?_
  refine a_getR (c0 := 23) fl_X7_12 lyC_79 rfl dX7_flockCover_57 (key := 5056) rfl ?_
  refine a_getI fl_X7_80 lyC_23 rfl dX7_flockCover_60 (key := 1473) rfl ?_
  refine a_callNi (as := [vi (gA σ5 67 (Int.toNat x6)), vi r6, vi (gF σ7 1473)]) mf_X7_83 (c_W_product F _ _ _ _) LYsame.rf dX7_flockCover_63 rfl rfl rfl rfl rfl rfl (Or.inl rfl) fun r8 σ9 => ?_
  refine a_iadd dX7_flockCover_66 ?_
  refine a_bv fun x4_10 ex4_10 => ?_
  refine a_istore (y := x4_10) (L' := [some (.ref 79), some (vi x1), some (vi x2), some (vi x3), some (vi x4_10), some (vi x5), some (vi x6), some (vi r4)]) dX7_flockCover_67 ex4_10 rfl rfl rfl ?_
  refine a_iload dX7_flockCover_69 rfl ?_
  refine a_aload_n dX7_flockCover_71 rfl ?_
  refine a_getR (c0 := 67) fl_X7_35 lyC_79 rfl dX7_flockCover_72 (key := 5064) rfl ?_
  refine a_iload dX7_flockCover_75 rfl ?_
  refine a_iald lyC_67 rfl dX7_flockCover_77 ?_
  refine a_aload_n dX7_flockCover_78 rfl ?_
  refine a_getR (c0 := 23) fl_X7_12 lyC_79 rfl dX7_flockCover_79 (key := 5056) rfl ?_
  refine a_iload dX7_flockCover_82 rfl ?_
  refine a_iload_n dX7_flockCover_84 rfl ?_
  refine a_callVi (as := [vi r4, vi x3]) mf_X7_97 lyC_23 rfl (c_Lattice_waveBack_lattice0 F _ _ _) LYsame.rf dX7_flockCover_85 rfl rfl rfl rfl rfl rfl (Or.inl rfl) fun r11 σ12 => ?_
  refine a_aload_n dX7_flockCover_88 rfl ?_
  refine a_getR (c0 := 23) fl_X7_12 lyC_79 rfl dX7_flockCover_89 (key := 5056) rfl ?_
  refine a_getI fl_X7_80 lyC_23 rfl dX7_flockCover_92 (key := 1473) rfl ?_
  refine a_callNi (as := [vi (gA σ9 67 (Int.toNat x6)), vi r11, vi (gF σ12 1473)]) mf_X7_83 (c_W_product F _ _ _ _) LYsame.rf dX7_flockCover_95 rfl rfl rfl rfl rfl rfl (Or.inl rfl) fun r13 σ14 => ?_
  refine a_iadd dX7_flockCover_98 ?_
  refine a_bv fun x5_15 ex5_15 => ?_
  refine a_istore (y := x5_15) (L' := [some (.ref 79), some (vi x1), some (vi x2), some (vi x3), some (vi x4_10), some (vi x5_15), some (vi x6), some (vi r4)]) dX7_flockCover_99 ex5_15 rfl rfl rfl ?_
  refine a_bv fun x6_16 ex6_16 => ?_
  refine a_iinc (y := x6_16) (L' := [some (.ref 79), some (vi x1), some (vi x2), some (vi x3), some (vi x4_10), some (vi x5_15), some (vi x6_16), some (vi r4)]) dX7_flockCover_101 rfl ex6_16 rfl rfl rfl ?_
  refine a_goto dX7_flockCover_104 rfl ?_
  exact a_L (lsub_get (A := [some (.ref 79), some (vi x1), some (vi x2), some (vi x3), some (vi x4_10), some (vi x5_15), some (vi x6_16), none]) ⟨rfl, ⟨rfl, ⟨rfl, ⟨rfl, ⟨rfl, ⟨rfl, ⟨rfl, trivial⟩⟩⟩⟩⟩⟩⟩) (hself _ _ _ _ _ _ _)
set_option maxRecDepth 100000 in
set_option maxHeartbeats 4000000 in
theorem cl_Scene_flockCover_scene0_9 {K : KX} {x : Bool} (F : Nat) : ∀ (n : Nat) (σ : St) (x1 x2 x3 x4 x5 x6 : Int), WA 2 0 1 cX7_flockCover RX7 8 (some .int) (LYC x false false) (LYC x false false) K 9 [some (.ref 79), some (vi x1), some (vi x2), some (vi x3), some (vi x4), some (vi x5), some (vi x6), none] [] σ (l_Scene_flockCover_scene0_9 F n σ x1 x2 x3 x4 x5 x6)
  | 0, _, _, _, _, _, _, _ => a_none
  | n + 1, σ, x1, x2, x3, x4, x5, x6 => cb_Scene_flockCover_scene0_9 F _ (cl_Scene_flockCover_scene0_9 F n) σ x1 x2 x3 x4 x5 x6
set_option maxRecDepth 100000 in
set_option maxHeartbeats 4000000 in
theorem c_Scene_flockCover_scene0 {x : Bool} (F : Nat) (σ : St) (x1 x2 x3 : Int) : Ct 2 0 1 yX7_flockCover cX7_flockCover 8 (some .int) (LYC x false false) (LYC x false false) [.ref 79, vi x1, vi x2, vi x3] σ (f_Scene_flockCover_scene0 F σ x1 x2 x3) := by
  unfold f_Scene_flockCover_scene0
  refine Ct_of (d := 2) (kp := 0) (kd := 1) (own := RX7) (nL := 8) (ret := (some .int)) (LY := (LYC x false false)) (LYe := (LYC x false false)) (L := [some (.ref 79), some (vi x1), some (vi x2), some (vi x3), none, none, none, none]) rfl (by decide +kernel) rfl rfl mf_X7_94.2.2.2.1 rfl fun K => ?_
  refine a_iconst dX7_flockCover_0 ?_
  refine a_istore (L' := [some (.ref 79), some (vi x1), some (vi x2), some (vi x3), some (vi 0), none, none, none]) dX7_flockCover_1 rfl rfl rfl rfl ?_
  refine a_iconst dX7_flockCover_3 ?_
  refine a_istore (L' := [some (.ref 79), some (vi x1), some (vi x2), some (vi x3), some (vi 0), some (vi 0), none, none]) dX7_flockCover_4 rfl rfl rfl rfl ?_
  refine a_iload_n dX7_flockCover_6 rfl ?_
  refine a_istore (L' := [some (.ref 79), some (vi x1), some (vi x2), some (vi x3), some (vi 0), some (vi 0), some (vi x1), none]) dX7_flockCover_7 rfl rfl rfl rfl ?_
  exact cl_Scene_flockCover_scene0_9 F F _ _ _ _ _ _ _
def b_Scene_coverWithoutGains_scene0_5 (F : Nat) (self : St → Int → Int → Int → Int → Option (Int × St)) (σ : St) (x1 x2 x3 x4 : Int) : Option (Int × St) := gd (rng x4 ∧ rng (gF σ 5062)) (if (gF σ 5062) ≤ x4 then gd (rng x3 ∧ rng (gF σ 1473) ∧ (gF σ 1473) ≠ (0 : Int)) (some ((Int.tmod x3 (gF σ 1473)), σ)) else gd (inb x4 6) (gd (rng (gA σ 75 (Int.toNat x4)) ∧ rng x4) (if (gA σ 75 (Int.toNat x4)) = x4 then bnd (f_Scene_flockCover_scene0 F σ x4 x1 x2) fun r2 σ3 => bv (x3 + r2) fun x3_4 => bv (x4 + 1) fun x4_5 => self σ3 x1 x2 x3_4 x4_5 else bv (x4 + 1) fun x4_1 => self σ x1 x2 x3 x4_1)))
def l_Scene_coverWithoutGains_scene0_5 (F : Nat) : Nat → St → Int → Int → Int → Int → Option (Int × St)
  | 0 => fun _ _ _ _ _ => none
  | n + 1 => fun σ x1 x2 x3 x4 => b_Scene_coverWithoutGains_scene0_5 F (l_Scene_coverWithoutGains_scene0_5 F n) σ x1 x2 x3 x4
def f_Scene_coverWithoutGains_scene0 (F : Nat) (σ : St) (x1 x2 : Int) : Option (Int × St) := l_Scene_coverWithoutGains_scene0_5 F F σ x1 x2 0 0
set_option maxRecDepth 100000 in
set_option maxHeartbeats 4000000 in
theorem cb_Scene_coverWithoutGains_scene0_5 {K : KX} {x : Bool} (F : Nat) (self : St → Int → Int → Int → Int → Option (Int × St)) (hself : ∀ σ x1 x2 x3 x4, WA 3 0 1 cX7_coverWithoutGains RX7 5 (some .int) (LYC x false false) (LYC x false false) K 5 [some (.ref 79), some (vi x1), some (vi x2), some (vi x3), some (vi x4)] [] σ (self σ x1 x2 x3 x4)) (σ : St) (x1 x2 x3 x4 : Int) : WA 3 0 1 cX7_coverWithoutGains RX7 5 (some .int) (LYC x false false) (LYC x false false) K 5 [some (.ref 79), some (vi x1), some (vi x2), some (vi x3), some (vi x4)] [] σ (b_Scene_coverWithoutGains_scene0_5 F self σ x1 x2 x3 x4) := by
  unfold b_Scene_coverWithoutGains_scene0_5
  refine a_iload dX7_coverWithoutGains_5 rfl ?_
  refine a_aload_n dX7_coverWithoutGains_7 rfl ?_
  refine a_getI fl_X7_51 lyC_79 rfl dX7_coverWithoutGains_8 (key := 5062) rfl ?_
  refine a_icmp_ge dX7_coverWithoutGains_11 rfl (fun _ => ?_) (fun _ => ?_)
  · refine a_iload_n dX7_coverWithoutGains_43 rfl ?_
    refine a_aload_n dX7_coverWithoutGains_44 rfl ?_
    refine a_getR (c0 := 23) fl_X7_12 lyC_79 rfl dX7_coverWithoutGains_45 (key := 5056) rfl ?_
    refine a_getI fl_X7_80 lyC_23 rfl dX7_coverWithoutGains_48 (key := 1473) rfl ?_
    refine a_irem dX7_coverWithoutGains_51 (fun _ => ?_)
    exact a_iret dX7_coverWithoutGains_52
  refine a_aload_n dX7_coverWithoutGains_14 rfl ?_
  refine a_getR (c0 := 75) fl_X7_41 lyC_79 rfl dX7_coverWithoutGains_15 (key := 5066) rfl ?_
  refine a_iload dX7_coverWithoutGains_18 rfl ?_
  refine a_iald lyC_75 rfl dX7_coverWithoutGains_20 ?_
  refine a_iload dX7_coverWithoutGains_21 rfl ?_
  refine a_icmp_ne dX7_coverWithoutGains_23 rfl (fun _ => ?_) (fun _ => ?_)
  · refine a_bv fun x4_1 ex4_1 => ?_
    refine a_iinc (y := x4_1) (L' := [some (.ref 79), some (vi x1), some (vi x2), some (vi x3), some (vi x4_1)]) dX7_coverWithoutGains_37 rfl ex4_1 rfl rfl rfl ?_
    refine a_goto dX7_coverWithoutGains_40 rfl ?_
    exact hself _ _ _ _ _
  refine a_iload_n dX7_coverWithoutGains_26 rfl ?_
  refine a_aload_n dX7_coverWithoutGains_27 rfl ?_
  refine a_iload dX7_coverWithoutGains_28 rfl ?_
  refine a_iload_n dX7_coverWithoutGains_30 rfl ?_
  refine a_iload_n dX7_coverWithoutGains_31 rfl ?_
  refine a_callVi (as := [vi x4, vi x1, vi x2]) mf_X7_94 lyC_79 rfl (c_Scene_flockCover_scene0 F _ _ _ _) LYsame.rf dX7_coverWithoutGains_32 rfl rfl rfl rfl rfl rfl (Or.inl rfl) fun r2 σ3 => ?_
  refine a_iadd dX7_coverWithoutGains_35 ?_
  refine a_bv fun x3_4 ex3_4 => ?_
  refine a_istore_n (y := x3_4) (L' := [some (.ref 79), some (vi x1), some (vi x2), some (vi x3_4), some (vi x4)]) dX7_coverWithoutGains_36 ex3_4 rfl rfl rfl ?_
  refine a_bv fun x4_5 ex4_5 => ?_
  refine a_iinc (y := x4_5) (L' := [some (.ref 79), some (vi x1), some (vi x2), some (vi x3_4), some (vi x4_5)]) dX7_coverWithoutGains_37 rfl ex4_5 rfl rfl rfl ?_
  refine a_goto dX7_coverWithoutGains_40 rfl ?_
  exact hself _ _ _ _ _
set_option maxRecDepth 100000 in
set_option maxHeartbeats 4000000 in
theorem cl_Scene_coverWithoutGains_scene0_5 {K : KX} {x : Bool} (F : Nat) : ∀ (n : Nat) (σ : St) (x1 x2 x3 x4 : Int), WA 3 0 1 cX7_coverWithoutGains RX7 5 (some .int) (LYC x false false) (LYC x false false) K 5 [some (.ref 79), some (vi x1), some (vi x2), some (vi x3), some (vi x4)] [] σ (l_Scene_coverWithoutGains_scene0_5 F n σ x1 x2 x3 x4)
  | 0, _, _, _, _, _ => a_none
  | n + 1, σ, x1, x2, x3, x4 => cb_Scene_coverWithoutGains_scene0_5 F _ (cl_Scene_coverWithoutGains_scene0_5 F n) σ x1 x2 x3 x4
set_option maxRecDepth 100000 in
set_option maxHeartbeats 4000000 in
theorem c_Scene_coverWithoutGains_scene0 {x : Bool} (F : Nat) (σ : St) (x1 x2 : Int) : Ct 3 0 1 yX7_coverWithoutGains cX7_coverWithoutGains 5 (some .int) (LYC x false false) (LYC x false false) [.ref 79, vi x1, vi x2] σ (f_Scene_coverWithoutGains_scene0 F σ x1 x2) := by
  unfold f_Scene_coverWithoutGains_scene0
  refine Ct_of (d := 3) (kp := 0) (kd := 1) (own := RX7) (nL := 5) (ret := (some .int)) (LY := (LYC x false false)) (LYe := (LYC x false false)) (L := [some (.ref 79), some (vi x1), some (vi x2), none, none]) rfl (by decide +kernel) rfl rfl mf_X7_91.2.2.2.1 rfl fun K => ?_
  refine a_iconst dX7_coverWithoutGains_0 ?_
  refine a_istore_n (L' := [some (.ref 79), some (vi x1), some (vi x2), some (vi 0), none]) dX7_coverWithoutGains_1 rfl rfl rfl rfl ?_
  refine a_iconst dX7_coverWithoutGains_2 ?_
  refine a_istore (L' := [some (.ref 79), some (vi x1), some (vi x2), some (vi 0), some (vi 0)]) dX7_coverWithoutGains_3 rfl rfl rfl rfl ?_
  exact cl_Scene_coverWithoutGains_scene0_5 F F _ _ _ _ _
def f_Scene_coverOf_scene0 (F : Nat) (σ : St) (x1 x2 : Int) : Option (Int × St) := gd (inb x1 10) (gd (inb x2 10) (bnd (f_W_product F σ (gA σ 59 (Int.toNat x1)) (gA σ 59 (Int.toNat x2)) (gF σ 1473)) fun r1 σ2 => gd (inb x1 10) (gd (inb x2 10) (bnd (f_Scene_coverWithoutGains_scene0 F σ2 (gA σ2 55 (Int.toNat x1)) (gA σ2 55 (Int.toNat x2))) fun r3 σ4 => bnd (f_W_product F σ4 r1 r3 (gF σ4 1473)) fun r5 σ6 => some (r5, σ6)))))
set_option maxRecDepth 100000 in
set_option maxHeartbeats 4000000 in
theorem c_Scene_coverOf_scene0 {x : Bool} (F : Nat) (σ : St) (x1 x2 : Int) : Ct 4 0 1 yX7_coverOf cX7_coverOf 4 (some .int) (LYC x false false) (LYC x false false) [.ref 79, vi x1, vi x2] σ (f_Scene_coverOf_scene0 F σ x1 x2) := by
  unfold f_Scene_coverOf_scene0
  refine Ct_of (d := 4) (kp := 0) (kd := 1) (own := RX7) (nL := 4) (ret := (some .int)) (LY := (LYC x false false)) (LYe := (LYC x false false)) (L := [some (.ref 79), some (vi x1), some (vi x2), none]) rfl (by decide +kernel) rfl rfl mf_X10_169.2.2.2.1 rfl fun K => ?_
  refine a_aload_n dX7_coverOf_0 rfl ?_
  refine a_getR (c0 := 59) fl_X7_29 lyC_79 rfl dX7_coverOf_1 (key := 5061) rfl ?_
  refine a_iload_n dX7_coverOf_4 rfl ?_
  refine a_iald lyC_59 rfl dX7_coverOf_5 ?_
  refine a_aload_n dX7_coverOf_6 rfl ?_
  refine a_getR (c0 := 59) fl_X7_29 lyC_79 rfl dX7_coverOf_7 (key := 5061) rfl ?_
  refine a_iload_n dX7_coverOf_10 rfl ?_
  refine a_iald lyC_59 rfl dX7_coverOf_11 ?_
  refine a_aload_n dX7_coverOf_12 rfl ?_
  refine a_getR (c0 := 23) fl_X7_12 lyC_79 rfl dX7_coverOf_13 (key := 5056) rfl ?_
  refine a_getI fl_X7_80 lyC_23 rfl dX7_coverOf_16 (key := 1473) rfl ?_
  refine a_callNi (as := [vi (gA σ 59 (Int.toNat x1)), vi (gA σ 59 (Int.toNat x2)), vi (gF σ 1473)]) mf_X7_83 (c_W_product F _ _ _ _) LYsame.rf dX7_coverOf_19 rfl rfl rfl rfl rfl rfl (Or.inl rfl) fun r1 σ2 => ?_
  refine a_istore_n (L' := [some (.ref 79), some (vi x1), some (vi x2), some (vi r1)]) dX7_coverOf_22 rfl rfl rfl rfl ?_
  refine a_iload_n dX7_coverOf_23 rfl ?_
  refine a_aload_n dX7_coverOf_24 rfl ?_
  refine a_aload_n dX7_coverOf_25 rfl ?_
  refine a_getR (c0 := 55) fl_X7_25 lyC_79 rfl dX7_coverOf_26 (key := 5060) rfl ?_
  refine a_iload_n dX7_coverOf_29 rfl ?_
  refine a_iald lyC_55 rfl dX7_coverOf_30 ?_
  refine a_aload_n dX7_coverOf_31 rfl ?_
  refine a_getR (c0 := 55) fl_X7_25 lyC_79 rfl dX7_coverOf_32 (key := 5060) rfl ?_
  refine a_iload_n dX7_coverOf_35 rfl ?_
  refine a_iald lyC_55 rfl dX7_coverOf_36 ?_
  refine a_callVi (as := [vi (gA σ2 55 (Int.toNat x1)), vi (gA σ2 55 (Int.toNat x2))]) mf_X7_91 lyC_79 rfl (c_Scene_coverWithoutGains_scene0 F _ _ _) LYsame.rf dX7_coverOf_37 rfl rfl rfl rfl rfl rfl (Or.inl rfl) fun r3 σ4 => ?_
  refine a_aload_n dX7_coverOf_40 rfl ?_
  refine a_getR (c0 := 23) fl_X7_12 lyC_79 rfl dX7_coverOf_41 (key := 5056) rfl ?_
  refine a_getI fl_X7_80 lyC_23 rfl dX7_coverOf_44 (key := 1473) rfl ?_
  refine a_callNi (as := [vi r1, vi r3, vi (gF σ4 1473)]) mf_X7_83 (c_W_product F _ _ _ _) LYsame.rf dX7_coverOf_47 rfl rfl rfl rfl rfl rfl (Or.inl rfl) fun r5 σ6 => ?_
  exact a_iret dX7_coverOf_50
def f_W_cover (F : Nat) (σ : St) (x1 x2 : Int) : Option (Int × St) := bnd (f_Scene_hasHearer_scene0 F σ x1) fun r1 σ2 => gd (rng r1) (if r1 = 0 then some ((-1), σ2) else bnd (f_Scene_hasHearer_scene0 F σ2 x2) fun r3 σ4 => gd (rng r3) (if r3 = 0 then some ((-1), σ4) else bnd (f_Scene_coverOf_scene0 F σ4 x1 x2) fun r5 σ6 => some (r5, σ6)))
set_option maxRecDepth 100000 in
set_option maxHeartbeats 4000000 in
theorem c_W_cover {x : Bool} (F : Nat) (σ : St) (x1 x2 : Int) : Ct 5 0 1 yX10_cover cX10_cover 3 (some .int) (LYC x false false) (LYC x false false) [.ref 0, vi x1, vi x2] σ (f_W_cover F σ x1 x2) := by
  unfold f_W_cover
  refine Ct_of (d := 5) (kp := 0) (kd := 1) (own := RX10) (nL := 3) (ret := (some .int)) (LY := (LYC x false false)) (LYe := (LYC x false false)) (L := [some (.ref 0), some (vi x1), some (vi x2)]) rfl (by decide +kernel) rfl rfl mf_L_70.2.2.2.1 rfl fun K => ?_
  refine a_aload_n dX10_cover_0 rfl ?_
  refine a_getR (c0 := 79) fl_X10_26 lyC_0 rfl dX10_cover_1 (key := 2) rfl ?_
  refine a_iload_n dX10_cover_4 rfl ?_
  refine a_callVi (as := [vi x1]) mf_X10_121 lyC_79 rfl (c_Scene_hasHearer_scene0 F _ _) LYsame.rf dX10_cover_5 rfl rfl rfl rfl rfl rfl (Or.inl rfl) fun r1 σ2 => ?_
  refine a_if_eq dX10_cover_8 rfl (fun _ => ?_) (fun _ => ?_)
  · refine a_iconst dX10_cover_34 ?_
    exact a_iret dX10_cover_35
  refine a_aload_n dX10_cover_11 rfl ?_
  refine a_getR (c0 := 79) fl_X10_26 lyC_0 rfl dX10_cover_12 (key := 2) rfl ?_
  refine a_iload_n dX10_cover_15 rfl ?_
  refine a_callVi (as := [vi x2]) mf_X10_121 lyC_79 rfl (c_Scene_hasHearer_scene0 F _ _) LYsame.rf dX10_cover_16 rfl rfl rfl rfl rfl rfl (Or.inl rfl) fun r3 σ4 => ?_
  refine a_if_eq dX10_cover_19 rfl (fun _ => ?_) (fun _ => ?_)
  · refine a_iconst dX10_cover_34 ?_
    exact a_iret dX10_cover_35
  refine a_aload_n dX10_cover_22 rfl ?_
  refine a_getR (c0 := 79) fl_X10_26 lyC_0 rfl dX10_cover_23 (key := 2) rfl ?_
  refine a_iload_n dX10_cover_26 rfl ?_
  refine a_iload_n dX10_cover_27 rfl ?_
  refine a_callVi (as := [vi x1, vi x2]) mf_X10_169 lyC_79 rfl (c_Scene_coverOf_scene0 F _ _ _) LYsame.rf dX10_cover_28 rfl rfl rfl rfl rfl rfl (Or.inl rfl) fun r5 σ6 => ?_
  refine a_goto dX10_cover_31 rfl ?_
  exact a_iret dX10_cover_35
def b_W_fillCover_33 (F : Nat) (k13 : St → Int → Int → Int → Option (Int × St)) (k21 : St → Int → Int → Int → Int → Option (Int × St)) (self : St → Int → Int → Int → Int → Int → Int → Option (Int × St)) (σ : St) (x1 x2 x3 x4 x5 x6 : Int) : Option (Int × St) := gd (rng (x6 + x1) ∧ rng (gF σ 5059)) (if (gF σ 5059) < (x6 + x1) then gd (inb x3 46) (gd (inb x4 70) (bs (sA σ (103 + (Int.toNat x3)) (Int.toNat x4) x5) fun σ4 => bv (x4 + 1) fun x4_5 => k21 σ4 x1 x2 x3 x4_5)) else bnd (f_Scene_coverOf_scene0 F σ (x3 + x6) (x4 + x6)) fun r6 σ7 => gd (rng (x5 + r6) ∧ rng x2 ∧ x2 ≠ (0 : Int)) (bv (Int.tmod (x5 + r6) x2) fun x5_8 => bv (x6 + 1) fun x6_9 => self σ7 x1 x2 x3 x4 x5_8 x6_9))
def l_W_fillCover_33 (F : Nat) (k13 : St → Int → Int → Int → Option (Int × St)) (k21 : St → Int → Int → Int → Int → Option (Int × St)) : Nat → St → Int → Int → Int → Int → Int → Int → Option (Int × St)
  | 0 => fun _ _ _ _ _ _ _ => none
  | n + 1 => fun σ x1 x2 x3 x4 x5 x6 => b_W_fillCover_33 F k13 k21 (l_W_fillCover_33 F k13 k21 n) σ x1 x2 x3 x4 x5 x6
def b_W_fillCover_21 (F : Nat) (k13 : St → Int → Int → Int → Option (Int × St)) (self : St → Int → Int → Int → Int → Option (Int × St)) (σ : St) (x1 x2 x3 x4 : Int) : Option (Int × St) := gd (rng x4 ∧ rng x1) (if x1 ≤ x4 then bv (x3 + 1) fun x3_2 => k13 σ x1 x2 x3_2 else l_W_fillCover_33 F k13 self F σ x1 x2 x3 x4 0 0)
def l_W_fillCover_21 (F : Nat) (k13 : St → Int → Int → Int → Option (Int × St)) : Nat → St → Int → Int → Int → Int → Option (Int × St)
  | 0 => fun _ _ _ _ _ => none
  | n + 1 => fun σ x1 x2 x3 x4 => b_W_fillCover_21 F k13 (l_W_fillCover_21 F k13 n) σ x1 x2 x3 x4
def b_W_fillCover_13 (F : Nat) (self : St → Int → Int → Int → Option (Int × St)) (σ : St) (x1 x2 x3 : Int) : Option (Int × St) := gd (rng x3 ∧ rng x1) (if x1 ≤ x3 then some (0, σ) else l_W_fillCover_21 F self F σ x1 x2 x3 0)
def l_W_fillCover_13 (F : Nat) : Nat → St → Int → Int → Int → Option (Int × St)
  | 0 => fun _ _ _ _ => none
  | n + 1 => fun σ x1 x2 x3 => b_W_fillCover_13 F (l_W_fillCover_13 F n) σ x1 x2 x3
def f_W_fillCover (F : Nat) (σ : St) (x1 : Int) : Option (Int × St) := bv (gF σ 1473) fun x2_1 => l_W_fillCover_13 F F σ x1 x2_1 0
set_option maxRecDepth 100000 in
set_option maxHeartbeats 4000000 in
theorem cb_W_fillCover_33 {K : KX} {x : Bool} (F : Nat) (k13 : St → Int → Int → Int → Option (Int × St)) (k21 : St → Int → Int → Int → Int → Option (Int × St)) (h13 : ∀ σ x1 x2 x3, WA 5 0 0 cX10_fillCover RX10 7 none (LYC x false false) (LYC x false false) K 13 [some (.ref 0), some (vi x1), some (vi x2), some (vi x3), none, none, none] [] σ (k13 σ x1 x2 x3)) (h21 : ∀ σ x1 x2 x3 x4, WA 5 0 0 cX10_fillCover RX10 7 none (LYC x false false) (LYC x false false) K 21 [some (.ref 0), some (vi x1), some (vi x2), some (vi x3), some (vi x4), none, none] [] σ (k21 σ x1 x2 x3 x4)) (self : St → Int → Int → Int → Int → Int → Int → Option (Int × St)) (hself : ∀ σ x1 x2 x3 x4 x5 x6, WA 5 0 0 cX10_fillCover RX10 7 none (LYC x false false) (LYC x false false) K 33 [some (.ref 0), some (vi x1), some (vi x2), some (vi x3), some (vi x4), some (vi x5), some (vi x6)] [] σ (self σ x1 x2 x3 x4 x5 x6)) (σ : St) (x1 x2 x3 x4 x5 x6 : Int) : WA 5 0 0 cX10_fillCover RX10 7 none (LYC x false false) (LYC x false false) K 33 [some (.ref 0), some (vi x1), some (vi x2), some (vi x3), some (vi x4), some (vi x5), some (vi x6)] [] σ (b_W_fillCover_33 F k13 k21 self σ x1 x2 x3 x4 x5 x6) := by
  unfold b_W_fillCover_33
  refine a_iload dX10_fillCover_33 rfl ?_
  refine a_iload_n dX10_fillCover_35 rfl ?_
  refine a_iadd dX10_fillCover_36 ?_
  refine a_aload_n dX10_fillCover_37 rfl ?_
  refine a_getR (c0 := 79) fl_X10_26 lyC_0 rfl dX10_fillCover_38 (key := 2) rfl ?_
  refine a_getI fl_X10_172 lyC_79 rfl dX10_fillCover_41 (key := 5059) rfl ?_
  refine a_icmp_gt dX10_fillCover_44 rfl (fun _ => ?_) (fun _ => ?_)
  · refine a_aload_n dX10_fillCover_76 rfl ?_
    refine a_getR (c0 := 85) fl_X10_44 lyC_0 rfl dX10_fillCover_77 (key := 6) rfl ?_
    refine a_getR (c0 := 86) fl_X10_188 lyC_85 rfl dX10_fillCover_80 (key := 5440) rfl ?_
    refine a_iload_n dX10_fillCover_83 rfl ?_
    refine a_aaldI lyC_86 rfl dX10_fillCover_84 fun hi3 => ?_
    refine a_iload dX10_fillCover_85 rfl ?_
    refine a_iload dX10_fillCover_87 rfl ?_
    refine a_iast (lyC_r _ (ix_lt hi3)) rfl dX10_fillCover_89 fun σ4 => ?_
    refine a_bv fun x4_5 ex4_5 => ?_
    refine a_iinc (y := x4_5) (L' := [some (.ref 0), some (vi x1), some (vi x2), some (vi x3), some (vi x4_5), some (vi x5), some (vi x6)]) dX10_fillCover_90 rfl ex4_5 rfl rfl rfl ?_
    refine a_goto dX10_fillCover_93 rfl ?_
    exact a_L (lsub_get (A := [some (.ref 0), some (vi x1), some (vi x2), some (vi x3), some (vi x4_5), none, none]) ⟨rfl, ⟨rfl, ⟨rfl, ⟨rfl, ⟨rfl, trivial⟩⟩⟩⟩⟩) (h21 _ _ _ _ _)
  refine a_iload dX10_fillCover_47 rfl ?_
  refine a_aload_n dX10_fillCover_49 rfl ?_
  refine a_getR (c0 := 79) fl_X10_26 lyC_0 rfl dX10_fillCover_50 (key := 2) rfl ?_
  refine a_iload_n dX10_fillCover_53 rfl ?_
  refine a_iload dX10_fillCover_54 rfl ?_
  refine a_iadd dX10_fillCover_56 ?_
  refine a_iload dX10_fillCover_57 rfl ?_
  refine a_iload dX10_fillCover_59 rfl ?_
  refine a_iadd dX10_fillCover_61 ?_
  refine a_callVi (as := [vi (x3 + x6), vi (x4 + x6)]) mf_X10_169 lyC_79 rfl (c_Scene_coverOf_scene0 F _ _ _) LYsame.rf dX10_fillCover_62 rfl rfl rfl rfl rfl rfl (Or.inl rfl) fun r6 σ7 => ?_
  refine a_iadd dX10_fillCover_65 ?_
  refine a_iload_n dX10_fillCover_66 rfl ?_
  refine a_irem dX10_fillCover_67 (fun _ => ?_)
  refine a_bv fun x5_8 ex5_8 => ?_
  refine a_istore (y := x5_8) (L' := [some (.ref 0), some (vi x1), some (vi x2), some (vi x3), some (vi x4), some (vi x5_8), some (vi x6)]) dX10_fillCover_68 ex5_8 rfl rfl rfl ?_
  refine a_bv fun x6_9 ex6_9 => ?_
  refine a_iinc (y := x6_9) (L' := [some (.ref 0), some (vi x1), some (vi x2), some (vi x3), some (vi x4), some (vi x5_8), some (vi x6_9)]) dX10_fillCover_70 rfl ex6_9 rfl rfl rfl ?_
  refine a_goto dX10_fillCover_73 rfl ?_
  exact hself _ _ _ _ _ _ _
set_option maxRecDepth 100000 in
set_option maxHeartbeats 4000000 in
theorem cl_W_fillCover_33 {K : KX} {x : Bool} (F : Nat) (k13 : St → Int → Int → Int → Option (Int × St)) (k21 : St → Int → Int → Int → Int → Option (Int × St)) (h13 : ∀ σ x1 x2 x3, WA 5 0 0 cX10_fillCover RX10 7 none (LYC x false false) (LYC x false false) K 13 [some (.ref 0), some (vi x1), some (vi x2), some (vi x3), none, none, none] [] σ (k13 σ x1 x2 x3)) (h21 : ∀ σ x1 x2 x3 x4, WA 5 0 0 cX10_fillCover RX10 7 none (LYC x false false) (LYC x false false) K 21 [some (.ref 0), some (vi x1), some (vi x2), some (vi x3), some (vi x4), none, none] [] σ (k21 σ x1 x2 x3 x4)) : ∀ (n : Nat) (σ : St) (x1 x2 x3 x4 x5 x6 : Int), WA 5 0 0 cX10_fillCover RX10 7 none (LYC x false false) (LYC x false false) K 33 [some (.ref 0), some (vi x1), some (vi x2), some (vi x3), some (vi x4), some (vi x5), some (vi x6)] [] σ (l_W_fillCover_33 F k13 k21 n σ x1 x2 x3 x4 x5 x6)
  | 0, _, _, _, _, _, _, _ => a_none
  | n + 1, σ, x1, x2, x3, x4, x5, x6 => cb_W_fillCover_33 F k13 k21 h13 h21 _ (cl_W_fillCover_33 F k13 k21 h13 h21 n) σ x1 x2 x3 x4 x5 x6
set_option maxRecDepth 100000 in
set_option maxHeartbeats 4000000 in
theorem cb_W_fillCover_21 {K : KX} {x : Bool} (F : Nat) (k13 : St → Int → Int → Int → Option (Int × St)) (h13 : ∀ σ x1 x2 x3, WA 5 0 0 cX10_fillCover RX10 7 none (LYC x false false) (LYC x false false) K 13 [some (.ref 0), some (vi x1), some (vi x2), some (vi x3), none, none, none] [] σ (k13 σ x1 x2 x3)) (self : St → Int → Int → Int → Int → Option (Int × St)) (hself : ∀ σ x1 x2 x3 x4, WA 5 0 0 cX10_fillCover RX10 7 none (LYC x false false) (LYC x false false) K 21 [some (.ref 0), some (vi x1), some (vi x2), some (vi x3), some (vi x4), none, none] [] σ (self σ x1 x2 x3 x4)) (σ : St) (x1 x2 x3 x4 : Int) : WA 5 0 0 cX10_fillCover RX10 7 none (LYC x false false) (LYC x false false) K 21 [some (.ref 0), some (vi x1), some (vi x2), some (vi x3), some (vi x4), none, none] [] σ (b_W_fillCover_21 F k13 self σ x1 x2 x3 x4) := by
  unfold b_W_fillCover_21
  refine a_iload dX10_fillCover_21 rfl ?_
  refine a_iload_n dX10_fillCover_23 rfl ?_
  refine a_icmp_ge dX10_fillCover_24 rfl (fun _ => ?_) (fun _ => ?_)
  · refine a_bv fun x3_2 ex3_2 => ?_
    refine a_iinc (y := x3_2) (L' := [some (.ref 0), some (vi x1), some (vi x2), some (vi x3_2), some (vi x4), none, none]) dX10_fillCover_96 rfl ex3_2 rfl rfl rfl ?_
    refine a_goto dX10_fillCover_99 rfl ?_
    exact a_L (lsub_get (A := [some (.ref 0), some (vi x1), some (vi x2), some (vi x3_2), none, none, none]) ⟨rfl, ⟨rfl, ⟨rfl, ⟨rfl, trivial⟩⟩⟩⟩) (h13 _ _ _ _)
  refine a_iconst dX10_fillCover_27 ?_
  refine a_istore (L' := [some (.ref 0), some (vi x1), some (vi x2), some (vi x3), some (vi x4), some (vi 0), none]) dX10_fillCover_28 rfl rfl rfl rfl ?_
  refine a_iconst dX10_fillCover_30 ?_
  refine a_istore (L' := [some (.ref 0), some (vi x1), some (vi x2), some (vi x3), some (vi x4), some (vi 0), some (vi 0)]) dX10_fillCover_31 rfl rfl rfl rfl ?_
  exact cl_W_fillCover_33 F _ _ h13 hself F _ _ _ _ _ _ _
set_option maxRecDepth 100000 in
set_option maxHeartbeats 4000000 in
theorem cl_W_fillCover_21 {K : KX} {x : Bool} (F : Nat) (k13 : St → Int → Int → Int → Option (Int × St)) (h13 : ∀ σ x1 x2 x3, WA 5 0 0 cX10_fillCover RX10 7 none (LYC x false false) (LYC x false false) K 13 [some (.ref 0), some (vi x1), some (vi x2), some (vi x3), none, none, none] [] σ (k13 σ x1 x2 x3)) : ∀ (n : Nat) (σ : St) (x1 x2 x3 x4 : Int), WA 5 0 0 cX10_fillCover RX10 7 none (LYC x false false) (LYC x false false) K 21 [some (.ref 0), some (vi x1), some (vi x2), some (vi x3), some (vi x4), none, none] [] σ (l_W_fillCover_21 F k13 n σ x1 x2 x3 x4)
  | 0, _, _, _, _, _ => a_none
  | n + 1, σ, x1, x2, x3, x4 => cb_W_fillCover_21 F k13 h13 _ (cl_W_fillCover_21 F k13 h13 n) σ x1 x2 x3 x4
set_option maxRecDepth 100000 in
set_option maxHeartbeats 4000000 in
theorem cb_W_fillCover_13 {K : KX} {x : Bool} (F : Nat) (self : St → Int → Int → Int → Option (Int × St)) (hself : ∀ σ x1 x2 x3, WA 5 0 0 cX10_fillCover RX10 7 none (LYC x false false) (LYC x false false) K 13 [some (.ref 0), some (vi x1), some (vi x2), some (vi x3), none, none, none] [] σ (self σ x1 x2 x3)) (σ : St) (x1 x2 x3 : Int) : WA 5 0 0 cX10_fillCover RX10 7 none (LYC x false false) (LYC x false false) K 13 [some (.ref 0), some (vi x1), some (vi x2), some (vi x3), none, none, none] [] σ (b_W_fillCover_13 F self σ x1 x2 x3) := by
  unfold b_W_fillCover_13
  refine a_iload_n dX10_fillCover_13 rfl ?_
  refine a_iload_n dX10_fillCover_14 rfl ?_
  refine a_icmp_ge dX10_fillCover_15 rfl (fun _ => ?_) (fun _ => ?_)
  · exact a_vret dX10_fillCover_102
  refine a_iconst dX10_fillCover_18 ?_
  refine a_istore (L' := [some (.ref 0), some (vi x1), some (vi x2), some (vi x3), some (vi 0), none, none]) dX10_fillCover_19 rfl rfl rfl rfl ?_
  exact cl_W_fillCover_21 F _ hself F _ _ _ _ _
set_option maxRecDepth 100000 in
set_option maxHeartbeats 4000000 in
theorem cl_W_fillCover_13 {K : KX} {x : Bool} (F : Nat) : ∀ (n : Nat) (σ : St) (x1 x2 x3 : Int), WA 5 0 0 cX10_fillCover RX10 7 none (LYC x false false) (LYC x false false) K 13 [some (.ref 0), some (vi x1), some (vi x2), some (vi x3), none, none, none] [] σ (l_W_fillCover_13 F n σ x1 x2 x3)
  | 0, _, _, _, _ => a_none
  | n + 1, σ, x1, x2, x3 => cb_W_fillCover_13 F _ (cl_W_fillCover_13 F n) σ x1 x2 x3
set_option maxRecDepth 100000 in
set_option maxHeartbeats 4000000 in
theorem c_W_fillCover {x : Bool} (F : Nat) (σ : St) (x1 : Int) : Ct 5 0 0 yX10_fillCover cX10_fillCover 7 none (LYC x false false) (LYC x false false) [.ref 0, vi x1] σ (f_W_fillCover F σ x1) := by
  unfold f_W_fillCover
  refine Ct_of (d := 5) (kp := 0) (kd := 0) (own := RX10) (nL := 7) (ret := none) (LY := (LYC x false false)) (LYe := (LYC x false false)) (L := [some (.ref 0), some (vi x1), none, none, none, none, none]) rfl (by decide +kernel) rfl rfl mf_X10_175.2.2.2.1 rfl fun K => ?_
  refine a_aload_n dX10_fillCover_0 rfl ?_
  refine a_getR (c0 := 79) fl_X10_26 lyC_0 rfl dX10_fillCover_1 (key := 2) rfl ?_
  refine a_getR (c0 := 23) fl_X10_153 lyC_79 rfl dX10_fillCover_4 (key := 5056) rfl ?_
  refine a_getI fl_X10_178 lyC_23 rfl dX10_fillCover_7 (key := 1473) rfl ?_
  refine a_bv fun x2_1 ex2_1 => ?_
  refine a_istore_n (y := x2_1) (L' := [some (.ref 0), some (vi x1), some (vi x2_1), none, none, none, none]) dX10_fillCover_10 ex2_1 rfl rfl rfl ?_
  refine a_iconst dX10_fillCover_11 ?_
  refine a_istore_n (L' := [some (.ref 0), some (vi x1), some (vi x2_1), some (vi 0), none, none, none]) dX10_fillCover_12 rfl rfl rfl rfl ?_
  exact cl_W_fillCover_13 F F _ _ _ _
def b_Rows_rowWith_3 (F : Nat) (self : St → Int → Int → Int → Option (Int × St)) (σ : St) (x1 x3 x4 : Int) : Option (Int × St) := gd (rng x4 ∧ rng x3) (if x3 ≤ x4 then some ((-1), σ) else gd (inb x4 46) (gd (inb x1 70) (bv (gA σ (103 + (Int.toNat x4)) (Int.toNat x1)) fun t2 => gd (rng t2) (if t2 = 0 then bv (x4 + 1) fun x4_3 => self σ x1 x3 x4_3 else some (x4, σ)))))
def l_Rows_rowWith_3 (F : Nat) : Nat → St → Int → Int → Int → Option (Int × St)
  | 0 => fun _ _ _ _ => none
  | n + 1 => fun σ x1 x3 x4 => b_Rows_rowWith_3 F (l_Rows_rowWith_3 F n) σ x1 x3 x4
def f_Rows_rowWith (F : Nat) (σ : St) (x1 x2 x3 : Int) : Option (Int × St) := l_Rows_rowWith_3 F F σ x1 x3 x2
set_option maxRecDepth 100000 in
set_option maxHeartbeats 4000000 in
theorem cb_Rows_rowWith_3 {K : KX} {x : Bool} (F : Nat) (self : St → Int → Int → Int → Option (Int × St)) (hself : ∀ σ x1 x3 x4, WA 1 0 1 cX5_rowWith RX5 5 (some .int) (LYC x false false) (LYC x false false) K 3 [some (.ref 85), some (vi x1), none, some (vi x3), some (vi x4)] [] σ (self σ x1 x3 x4)) (σ : St) (x1 x3 x4 : Int) : WA 1 0 1 cX5_rowWith RX5 5 (some .int) (LYC x false false) (LYC x false false) K 3 [some (.ref 85), some (vi x1), none, some (vi x3), some (vi x4)] [] σ (b_Rows_rowWith_3 F self σ x1 x3 x4) := by
  unfold b_Rows_rowWith_3
  refine a_iload dX5_rowWith_3 rfl ?_
  refine a_iload_n dX5_rowWith_5 rfl ?_
  refine a_icmp_ge dX5_rowWith_6 rfl (fun _ => ?_) (fun _ => ?_)
  · refine a_iconst dX5_rowWith_30 ?_
    exact a_iret dX5_rowWith_31
  refine a_aload_n dX5_rowWith_9 rfl ?_
  refine a_getR (c0 := 86) fl_X5_13 lyC_85 rfl dX5_rowWith_10 (key := 5440) rfl ?_
  refine a_iload dX5_rowWith_13 rfl ?_
  refine a_aaldI lyC_86 rfl dX5_rowWith_15 fun hi1 => ?_
  refine a_iload_n dX5_rowWith_16 rfl ?_
  refine a_iald (lyC_r _ (ix_lt hi1)) rfl dX5_rowWith_17 ?_
  refine a_bvi fun t2 => ?_
  refine a_if_eq dX5_rowWith_18 rfl (fun _ => ?_) (fun _ => ?_)
  · refine a_bv fun x4_3 ex4_3 => ?_
    refine a_iinc (y := x4_3) (L' := [some (.ref 85), some (vi x1), none, some (vi x3), some (vi x4_3)]) dX5_rowWith_24 rfl ex4_3 rfl rfl rfl ?_
    refine a_goto dX5_rowWith_27 rfl ?_
    exact hself _ _ _ _
  refine a_iload dX5_rowWith_21 rfl ?_
  exact a_iret dX5_rowWith_23
set_option maxRecDepth 100000 in
set_option maxHeartbeats 4000000 in
theorem cl_Rows_rowWith_3 {K : KX} {x : Bool} (F : Nat) : ∀ (n : Nat) (σ : St) (x1 x3 x4 : Int), WA 1 0 1 cX5_rowWith RX5 5 (some .int) (LYC x false false) (LYC x false false) K 3 [some (.ref 85), some (vi x1), none, some (vi x3), some (vi x4)] [] σ (l_Rows_rowWith_3 F n σ x1 x3 x4)
  | 0, _, _, _, _ => a_none
  | n + 1, σ, x1, x3, x4 => cb_Rows_rowWith_3 F _ (cl_Rows_rowWith_3 F n) σ x1 x3 x4
set_option maxRecDepth 100000 in
set_option maxHeartbeats 4000000 in
theorem c_Rows_rowWith {x : Bool} (F : Nat) (σ : St) (x1 x2 x3 : Int) : Ct 1 0 1 yX5_rowWith cX5_rowWith 5 (some .int) (LYC x false false) (LYC x false false) [.ref 85, vi x1, vi x2, vi x3] σ (f_Rows_rowWith F σ x1 x2 x3) := by
  unfold f_Rows_rowWith
  refine Ct_of (d := 1) (kp := 0) (kd := 1) (own := RX5) (nL := 5) (ret := (some .int)) (LY := (LYC x false false)) (LYe := (LYC x false false)) (L := [some (.ref 85), some (vi x1), some (vi x2), some (vi x3), none]) rfl (by decide +kernel) rfl rfl mf_X5_20.2.2.2.1 rfl fun K => ?_
  refine a_iload_n dX5_rowWith_0 rfl ?_
  refine a_istore (L' := [some (.ref 85), some (vi x1), some (vi x2), some (vi x3), some (vi x2)]) dX5_rowWith_1 rfl rfl rfl rfl ?_
  exact a_L (lsub_get (A := [some (.ref 85), some (vi x1), none, some (vi x3), some (vi x2)]) ⟨rfl, ⟨rfl, ⟨rfl, ⟨rfl, trivial⟩⟩⟩⟩) (cl_Rows_rowWith_3 F F _ _ _ _)
def b_W_inverse_9 (F : Nat) (self : St → Int → Int → Int → Int → Option (Int × St)) (σ : St) (x1 x2 x3 x4 : Int) : Option (Int × St) := gd (rng x4) (if x4 ≤ 0 then some (x2, σ) else gd (rng (iandI x4 1) ∧ rng 1) (if (iandI x4 1) = 1 then bnd (f_W_product F σ x2 x3 x1) fun r5 σ6 => bnd (f_W_product F σ6 x3 x3 x1) fun r7 σ8 => gd (rng x4 ∧ sh5 1) (bv (x4 / 2 ^ (Int.toNat 1)) fun x4_9 => self σ8 x1 r5 r7 x4_9) else bnd (f_W_product F σ x3 x3 x1) fun r2 σ3 => gd (rng x4 ∧ sh5 1) (bv (x4 / 2 ^ (Int.toNat 1)) fun x4_4 => self σ3 x1 x2 r2 x4_4)))
def l_W_inverse_9 (F : Nat) : Nat → St → Int → Int → Int → Int → Option (Int × St)
  | 0 => fun _ _ _ _ _ => none
  | n + 1 => fun σ x1 x2 x3 x4 => b_W_inverse_9 F (l_W_inverse_9 F n) σ x1 x2 x3 x4
def f_W_inverse (F : Nat) (σ : St) (x0 x1 : Int) : Option (Int × St) := bv (x1 - 2) fun x4_1 => l_W_inverse_9 F F σ x1 1 x0 x4_1
set_option maxRecDepth 100000 in
set_option maxHeartbeats 4000000 in
theorem cb_W_inverse_9 {K : KX} {x : Bool} (F : Nat) (self : St → Int → Int → Int → Int → Option (Int × St)) (hself : ∀ σ x1 x2 x3 x4, WA 2 0 1 cX10_inverse RX10 5 (some .int) (LYC x false false) (LYC x false false) K 9 [none, some (vi x1), some (vi x2), some (vi x3), some (vi x4)] [] σ (self σ x1 x2 x3 x4)) (σ : St) (x1 x2 x3 x4 : Int) : WA 2 0 1 cX10_inverse RX10 5 (some .int) (LYC x false false) (LYC x false false) K 9 [none, some (vi x1), some (vi x2), some (vi x3), some (vi x4)] [] σ (b_W_inverse_9 F self σ x1 x2 x3 x4) := by
  unfold b_W_inverse_9
  refine a_iload dX10_inverse_9 rfl ?_
  refine a_if_le dX10_inverse_11 rfl (fun _ => ?_) (fun _ => ?_)
  · refine a_iload_n dX10_inverse_45 rfl ?_
    exact a_iret dX10_inverse_46
  refine a_iload dX10_inverse_14 rfl ?_
  refine a_iconst dX10_inverse_16 ?_
  refine a_iand dX10_inverse_17 ?_
  refine a_iconst dX10_inverse_18 ?_
  refine a_icmp_ne dX10_inverse_19 rfl (fun _ => ?_) (fun _ => ?_)
  · refine a_iload_n dX10_inverse_29 rfl ?_
    refine a_iload_n dX10_inverse_30 rfl ?_
    refine a_iload_n dX10_inverse_31 rfl ?_
    refine a_callSi (as := [vi x3, vi x3, vi x1]) mf_X10_257 (c_W_product F _ _ _ _) LYsame.rf dX10_inverse_32 rfl rfl rfl rfl rfl rfl (Or.inl rfl) fun r2 σ3 => ?_
    refine a_istore_n (L' := [none, some (vi x1), some (vi x2), some (vi r2), some (vi x4)]) dX10_inverse_35 rfl rfl rfl rfl ?_
    refine a_iload dX10_inverse_36 rfl ?_
    refine a_iconst dX10_inverse_38 ?_
    refine a_ishr dX10_inverse_39 (fun _ => ?_)
    refine a_bv fun x4_4 ex4_4 => ?_
    refine a_istore (y := x4_4) (L' := [none, some (vi x1), some (vi x2), some (vi r2), some (vi x4_4)]) dX10_inverse_40 ex4_4 rfl rfl rfl ?_
    refine a_goto dX10_inverse_42 rfl ?_
    exact hself _ _ _ _ _
  refine a_iload_n dX10_inverse_22 rfl ?_
  refine a_iload_n dX10_inverse_23 rfl ?_
  refine a_iload_n dX10_inverse_24 rfl ?_
  refine a_callSi (as := [vi x2, vi x3, vi x1]) mf_X10_257 (c_W_product F _ _ _ _) LYsame.rf dX10_inverse_25 rfl rfl rfl rfl rfl rfl (Or.inl rfl) fun r5 σ6 => ?_
  refine a_istore_n (L' := [none, some (vi x1), some (vi r5), some (vi x3), some (vi x4)]) dX10_inverse_28 rfl rfl rfl rfl ?_
  refine a_iload_n dX10_inverse_29 rfl ?_
  refine a_iload_n dX10_inverse_30 rfl ?_
  refine a_iload_n dX10_inverse_31 rfl ?_
  refine a_callSi (as := [vi x3, vi x3, vi x1]) mf_X10_257 (c_W_product F _ _ _ _) LYsame.rf dX10_inverse_32 rfl rfl rfl rfl rfl rfl (Or.inl rfl) fun r7 σ8 => ?_
  refine a_istore_n (L' := [none, some (vi x1), some (vi r5), some (vi r7), some (vi x4)]) dX10_inverse_35 rfl rfl rfl rfl ?_
  refine a_iload dX10_inverse_36 rfl ?_
  refine a_iconst dX10_inverse_38 ?_
  refine a_ishr dX10_inverse_39 (fun _ => ?_)
  refine a_bv fun x4_9 ex4_9 => ?_
  refine a_istore (y := x4_9) (L' := [none, some (vi x1), some (vi r5), some (vi r7), some (vi x4_9)]) dX10_inverse_40 ex4_9 rfl rfl rfl ?_
  refine a_goto dX10_inverse_42 rfl ?_
  exact hself _ _ _ _ _
set_option maxRecDepth 100000 in
set_option maxHeartbeats 4000000 in
theorem cl_W_inverse_9 {K : KX} {x : Bool} (F : Nat) : ∀ (n : Nat) (σ : St) (x1 x2 x3 x4 : Int), WA 2 0 1 cX10_inverse RX10 5 (some .int) (LYC x false false) (LYC x false false) K 9 [none, some (vi x1), some (vi x2), some (vi x3), some (vi x4)] [] σ (l_W_inverse_9 F n σ x1 x2 x3 x4)
  | 0, _, _, _, _, _ => a_none
  | n + 1, σ, x1, x2, x3, x4 => cb_W_inverse_9 F _ (cl_W_inverse_9 F n) σ x1 x2 x3 x4
set_option maxRecDepth 100000 in
set_option maxHeartbeats 4000000 in
theorem c_W_inverse {x : Bool} (F : Nat) (σ : St) (x0 x1 : Int) : Ct 2 0 1 yX10_inverse cX10_inverse 5 (some .int) (LYC x false false) (LYC x false false) [vi x0, vi x1] σ (f_W_inverse F σ x0 x1) := by
  unfold f_W_inverse
  refine Ct_of (d := 2) (kp := 0) (kd := 1) (own := RX10) (nL := 5) (ret := (some .int)) (LY := (LYC x false false)) (LYe := (LYC x false false)) (L := [some (vi x0), some (vi x1), none, none, none]) rfl (by decide +kernel) rfl rfl mf_X10_254.2.2.2.1 rfl fun K => ?_
  refine a_iconst dX10_inverse_0 ?_
  refine a_istore_n (L' := [some (vi x0), some (vi x1), some (vi 1), none, none]) dX10_inverse_1 rfl rfl rfl rfl ?_
  refine a_iload_n dX10_inverse_2 rfl ?_
  refine a_istore_n (L' := [some (vi x0), some (vi x1), some (vi 1), some (vi x0), none]) dX10_inverse_3 rfl rfl rfl rfl ?_
  refine a_iload_n dX10_inverse_4 rfl ?_
  refine a_iconst dX10_inverse_5 ?_
  refine a_isub dX10_inverse_6 ?_
  refine a_bv fun x4_1 ex4_1 => ?_
  refine a_istore (y := x4_1) (L' := [some (vi x0), some (vi x1), some (vi 1), some (vi x0), some (vi x4_1)]) dX10_inverse_7 ex4_1 rfl rfl rfl ?_
  exact a_L (lsub_get (A := [none, some (vi x1), some (vi 1), some (vi x0), some (vi x4_1)]) ⟨rfl, ⟨rfl, ⟨rfl, ⟨rfl, trivial⟩⟩⟩⟩) (cl_W_inverse_9 F F _ _ _ _ _)
def b_Rows_scaleRow_3 (F : Nat) (self : St → Int → Int → Int → Int → Int → Option (Int × St)) (σ : St) (x1 x2 x3 x4 x5 : Int) : Option (Int × St) := gd (rng x5 ∧ rng x2) (if x2 ≤ x5 then some (0, σ) else gd (inb x1 46) (gd (inb x1 46) (gd (inb x5 70) (bv (gA σ (103 + (Int.toNat x1)) (Int.toNat x5)) fun t3 => bnd (f_W_product F σ t3 x3 x4) fun r4 σ5 => gd (inb x5 70) (bs (sA σ5 (103 + (Int.toNat x1)) (Int.toNat x5) r4) fun σ6 => bv (x5 + 1) fun x5_7 => self σ6 x1 x2 x3 x4 x5_7)))))
def l_Rows_scaleRow_3 (F : Nat) : Nat → St → Int → Int → Int → Int → Int → Option (Int × St)
  | 0 => fun _ _ _ _ _ _ => none
  | n + 1 => fun σ x1 x2 x3 x4 x5 => b_Rows_scaleRow_3 F (l_Rows_scaleRow_3 F n) σ x1 x2 x3 x4 x5
def f_Rows_scaleRow (F : Nat) (σ : St) (x1 x2 x3 x4 : Int) : Option (Int × St) := l_Rows_scaleRow_3 F F σ x1 x2 x3 x4 0
set_option maxRecDepth 100000 in
set_option maxHeartbeats 4000000 in
theorem cb_Rows_scaleRow_3 {K : KX} {x : Bool} (F : Nat) (self : St → Int → Int → Int → Int → Int → Option (Int × St)) (hself : ∀ σ x1 x2 x3 x4 x5, WA 2 0 0 cX5_scaleRow RX5 6 none (LYC x false false) (LYC x false false) K 3 [some (.ref 85), some (vi x1), some (vi x2), some (vi x3), some (vi x4), some (vi x5)] [] σ (self σ x1 x2 x3 x4 x5)) (σ : St) (x1 x2 x3 x4 x5 : Int) : WA 2 0 0 cX5_scaleRow RX5 6 none (LYC x false false) (LYC x false false) K 3 [some (.ref 85), some (vi x1), some (vi x2), some (vi x3), some (vi x4), some (vi x5)] [] σ (b_Rows_scaleRow_3 F self σ x1 x2 x3 x4 x5) := by
  unfold b_Rows_scaleRow_3
  refine a_iload dX5_scaleRow_3 rfl ?_
  refine a_iload_n dX5_scaleRow_5 rfl ?_
  refine a_icmp_ge dX5_scaleRow_6 rfl (fun _ => ?_) (fun _ => ?_)
  · exact a_vret dX5_scaleRow_39
  refine a_aload_n dX5_scaleRow_9 rfl ?_
  refine a_getR (c0 := 86) fl_X5_13 lyC_85 rfl dX5_scaleRow_10 (key := 5440) rfl ?_
  refine a_iload_n dX5_scaleRow_13 rfl ?_
  refine a_aaldI lyC_86 rfl dX5_scaleRow_14 fun hi1 => ?_
  refine a_iload dX5_scaleRow_15 rfl ?_
  refine a_aload_n dX5_scaleRow_17 rfl ?_
  refine a_getR (c0 := 86) fl_X5_13 lyC_85 rfl dX5_scaleRow_18 (key := 5440) rfl ?_
  refine a_iload_n dX5_scaleRow_21 rfl ?_
  refine a_aaldI lyC_86 rfl dX5_scaleRow_22 fun hi2 => ?_
  refine a_iload dX5_scaleRow_23 rfl ?_
  refine a_iald (lyC_r _ (ix_lt hi2)) rfl dX5_scaleRow_25 ?_
  refine a_bvi fun t3 => ?_
  refine a_iload_n dX5_scaleRow_26 rfl ?_
  refine a_iload dX5_scaleRow_27 rfl ?_
  refine a_callNi (as := [vi t3, vi x3, vi x4]) mf_X5_61 (c_W_product F _ _ _ _) LYsame.rf dX5_scaleRow_29 rfl rfl rfl rfl rfl rfl (Or.inl rfl) fun r4 σ5 => ?_
  refine a_iast (lyC_r _ (ix_lt hi1)) rfl dX5_scaleRow_32 fun σ6 => ?_
  refine a_bv fun x5_7 ex5_7 => ?_
  refine a_iinc (y := x5_7) (L' := [some (.ref 85), some (vi x1), some (vi x2), some (vi x3), some (vi x4), some (vi x5_7)]) dX5_scaleRow_33 rfl ex5_7 rfl rfl rfl ?_
  refine a_goto dX5_scaleRow_36 rfl ?_
  exact hself _ _ _ _ _ _
set_option maxRecDepth 100000 in
set_option maxHeartbeats 4000000 in
theorem cl_Rows_scaleRow_3 {K : KX} {x : Bool} (F : Nat) : ∀ (n : Nat) (σ : St) (x1 x2 x3 x4 x5 : Int), WA 2 0 0 cX5_scaleRow RX5 6 none (LYC x false false) (LYC x false false) K 3 [some (.ref 85), some (vi x1), some (vi x2), some (vi x3), some (vi x4), some (vi x5)] [] σ (l_Rows_scaleRow_3 F n σ x1 x2 x3 x4 x5)
  | 0, _, _, _, _, _, _ => a_none
  | n + 1, σ, x1, x2, x3, x4, x5 => cb_Rows_scaleRow_3 F _ (cl_Rows_scaleRow_3 F n) σ x1 x2 x3 x4 x5
set_option maxRecDepth 100000 in
set_option maxHeartbeats 4000000 in
theorem c_Rows_scaleRow {x : Bool} (F : Nat) (σ : St) (x1 x2 x3 x4 : Int) : Ct 2 0 0 yX5_scaleRow cX5_scaleRow 6 none (LYC x false false) (LYC x false false) [.ref 85, vi x1, vi x2, vi x3, vi x4] σ (f_Rows_scaleRow F σ x1 x2 x3 x4) := by
  unfold f_Rows_scaleRow
  refine Ct_of (d := 2) (kp := 0) (kd := 0) (own := RX5) (nL := 6) (ret := none) (LY := (LYC x false false)) (LYe := (LYC x false false)) (L := [some (.ref 85), some (vi x1), some (vi x2), some (vi x3), some (vi x4), none]) rfl (by decide +kernel) rfl rfl mf_X5_32.2.2.2.1 rfl fun K => ?_
  refine a_iconst dX5_scaleRow_0 ?_
  refine a_istore (L' := [some (.ref 85), some (vi x1), some (vi x2), some (vi x3), some (vi x4), some (vi 0)]) dX5_scaleRow_1 rfl rfl rfl rfl ?_
  exact cl_Rows_scaleRow_3 F F _ _ _ _ _ _
def f_W_difference (F : Nat) (σ : St) (x0 x1 x2 : Int) : Option (Int × St) := gd (rng x0 ∧ rng x1) (if x0 < x1 then some (((x0 - x1) + x2), σ) else some ((x0 - x1), σ))
set_option maxRecDepth 100000 in
set_option maxHeartbeats 4000000 in
theorem c_W_difference {x : Bool} (F : Nat) (σ : St) (x0 x1 x2 : Int) : Ct 1 0 1 yX10_difference cX10_difference 3 (some .int) (LYC x false false) (LYC x false false) [vi x0, vi x1, vi x2] σ (f_W_difference F σ x0 x1 x2) := by
  unfold f_W_difference
  refine Ct_of (d := 1) (kp := 0) (kd := 1) (own := RX10) (nL := 3) (ret := (some .int)) (LY := (LYC x false false)) (LYe := (LYC x false false)) (L := [some (vi x0), some (vi x1), some (vi x2)]) rfl (by decide +kernel) rfl rfl mf_X3_112.2.2.2.1 rfl fun K => ?_
  refine a_iload_n dX10_difference_0 rfl ?_
  refine a_iload_n dX10_difference_1 rfl ?_
  refine a_icmp_lt dX10_difference_2 rfl (fun _ => ?_) (fun _ => ?_)
  · refine a_iload_n dX10_difference_11 rfl ?_
    refine a_iload_n dX10_difference_12 rfl ?_
    refine a_isub dX10_difference_13 ?_
    refine a_iload_n dX10_difference_14 rfl ?_
    refine a_iadd dX10_difference_15 ?_
    exact a_iret dX10_difference_16
  refine a_iload_n dX10_difference_5 rfl ?_
  refine a_iload_n dX10_difference_6 rfl ?_
  refine a_isub dX10_difference_7 ?_
  refine a_goto dX10_difference_8 rfl ?_
  exact a_iret dX10_difference_16
def b_Rows_clearColumn_34 (F : Nat) (k3 : St → Int → Int → Int → Int → Int → Int → Option (Int × St)) (self : St → Int → Int → Int → Int → Int → Int → Int → Int → Option (Int × St)) (σ : St) (x1 x2 x3 x4 x5 x6 x7 x8 : Int) : Option (Int × St) := gd (rng x8 ∧ rng x4) (if x4 ≤ x8 then bv (x6 + 1) fun x6_5 => k3 σ x1 x2 x3 x4 x5 x6_5 else gd (inb x6 46) (gd (inb x6 46) (gd (inb x8 70) (bv (gA σ (103 + (Int.toNat x6)) (Int.toNat x8)) fun t8 => gd (inb x1 46) (gd (inb x8 70) (bv (gA σ (103 + (Int.toNat x1)) (Int.toNat x8)) fun t10 => bnd (f_W_product F σ x7 t10 x5) fun r11 σ12 => bnd (f_W_difference F σ12 t8 r11 x5) fun r13 σ14 => gd (inb x8 70) (bs (sA σ14 (103 + (Int.toNat x6)) (Int.toNat x8) r13) fun σ15 => bv (x8 + 1) fun x8_16 => self σ15 x1 x2 x3 x4 x5 x6 x7 x8_16)))))))
def l_Rows_clearColumn_34 (F : Nat) (k3 : St → Int → Int → Int → Int → Int → Int → Option (Int × St)) : Nat → St → Int → Int → Int → Int → Int → Int → Int → Int → Option (Int × St)
  | 0 => fun _ _ _ _ _ _ _ _ _ => none
  | n + 1 => fun σ x1 x2 x3 x4 x5 x6 x7 x8 => b_Rows_clearColumn_34 F k3 (l_Rows_clearColumn_34 F k3 n) σ x1 x2 x3 x4 x5 x6 x7 x8
def b_Rows_clearColumn_3 (F : Nat) (self : St → Int → Int → Int → Int → Int → Int → Option (Int × St)) (σ : St) (x1 x2 x3 x4 x5 x6 : Int) : Option (Int × St) := gd (rng x6 ∧ rng x3) (if x3 ≤ x6 then some (0, σ) else gd (inb x6 46) (gd (inb x2 70) (bv (gA σ (103 + (Int.toNat x6)) (Int.toNat x2)) fun t2 => gd (rng x6 ∧ rng x1) (if x6 = x1 then bv (x6 + 1) fun x6_3 => self σ x1 x2 x3 x4 x5 x6_3 else gd (rng t2) (if t2 = 0 then bv (x6 + 1) fun x6_4 => self σ x1 x2 x3 x4 x5 x6_4 else l_Rows_clearColumn_34 F self F σ x1 x2 x3 x4 x5 x6 t2 x2)))))
def l_Rows_clearColumn_3 (F : Nat) : Nat → St → Int → Int → Int → Int → Int → Int → Option (Int × St)
  | 0 => fun _ _ _ _ _ _ _ => none
  | n + 1 => fun σ x1 x2 x3 x4 x5 x6 => b_Rows_clearColumn_3 F (l_Rows_clearColumn_3 F n) σ x1 x2 x3 x4 x5 x6
def f_Rows_clearColumn (F : Nat) (σ : St) (x1 x2 x3 x4 x5 : Int) : Option (Int × St) := l_Rows_clearColumn_3 F F σ x1 x2 x3 x4 x5 0
set_option maxRecDepth 100000 in
set_option maxHeartbeats 4000000 in
theorem cb_Rows_clearColumn_34 {K : KX} {x : Bool} (F : Nat) (k3 : St → Int → Int → Int → Int → Int → Int → Option (Int × St)) (h3 : ∀ σ x1 x2 x3 x4 x5 x6, WA 2 0 0 cX5_clearColumn RX5 9 none (LYC x false false) (LYC x false false) K 3 [some (.ref 85), some (vi x1), some (vi x2), some (vi x3), some (vi x4), some (vi x5), some (vi x6), none, none] [] σ (k3 σ x1 x2 x3 x4 x5 x6)) (self : St → Int → Int → Int → Int → Int → Int → Int → Int → Option (Int × St)) (hself : ∀ σ x1 x2 x3 x4 x5 x6 x7 x8, WA 2 0 0 cX5_clearColumn RX5 9 none (LYC x false false) (LYC x false false) K 34 [some (.ref 85), some (vi x1), some (vi x2), some (vi x3), some (vi x4), some (vi x5), some (vi x6), some (vi x7), some (vi x8)] [] σ (self σ x1 x2 x3 x4 x5 x6 x7 x8)) (σ : St) (x1 x2 x3 x4 x5 x6 x7 x8 : Int) : WA 2 0 0 cX5_clearColumn RX5 9 none (LYC x false false) (LYC x false false) K 34 [some (.ref 85), some (vi x1), some (vi x2), some (vi x3), some (vi x4), some (vi x5), some (vi x6), some (vi x7), some (vi x8)] [] σ (b_Rows_clearColumn_34 F k3 self σ x1 x2 x3 x4 x5 x6 x7 x8) := by
  unfold b_Rows_clearColumn_34
  refine a_iload dX5_clearColumn_34 rfl ?_
  refine a_iload dX5_clearColumn_36 rfl ?_
  refine a_icmp_ge dX5_clearColumn_38 rfl (fun _ => ?_) (fun _ => ?_)
  · refine a_bv fun x6_5 ex6_5 => ?_
    refine a_iinc (y := x6_5) (L' := [some (.ref 85), some (vi x1), some (vi x2), some (vi x3), some (vi x4), some (vi x5), some (vi x6_5), some (vi x7), some (vi x8)]) dX5_clearColumn_88 rfl ex6_5 rfl rfl rfl ?_
    refine a_goto dX5_clearColumn_91 rfl ?_
    exact a_L (lsub_get (A := [some (.ref 85), some (vi x1), some (vi x2), some (vi x3), some (vi x4), some (vi x5), some (vi x6_5), none, none]) ⟨rfl, ⟨rfl, ⟨rfl, ⟨rfl, ⟨rfl, ⟨rfl, ⟨rfl, trivial⟩⟩⟩⟩⟩⟩⟩) (h3 _ _ _ _ _ _ _)
  refine a_aload_n dX5_clearColumn_41 rfl ?_
  refine a_getR (c0 := 86) fl_X5_13 lyC_85 rfl dX5_clearColumn_42 (key := 5440) rfl ?_
  refine a_iload dX5_clearColumn_45 rfl ?_
  refine a_aaldI lyC_86 rfl dX5_clearColumn_47 fun hi6 => ?_
  refine a_iload dX5_clearColumn_48 rfl ?_
  refine a_aload_n dX5_clearColumn_50 rfl ?_
  refine a_getR (c0 := 86) fl_X5_13 lyC_85 rfl dX5_clearColumn_51 (key := 5440) rfl ?_
  refine a_iload dX5_clearColumn_54 rfl ?_
  refine a_aaldI lyC_86 rfl dX5_clearColumn_56 fun hi7 => ?_
  refine a_iload dX5_clearColumn_57 rfl ?_
  refine a_iald (lyC_r _ (ix_lt hi7)) rfl dX5_clearColumn_59 ?_
  refine a_bvi fun t8 => ?_
  refine a_iload dX5_clearColumn_60 rfl ?_
  refine a_aload_n dX5_clearColumn_62 rfl ?_
  refine a_getR (c0 := 86) fl_X5_13 lyC_85 rfl dX5_clearColumn_63 (key := 5440) rfl ?_
  refine a_iload_n dX5_clearColumn_66 rfl ?_
  refine a_aaldI lyC_86 rfl dX5_clearColumn_67 fun hi9 => ?_
  refine a_iload dX5_clearColumn_68 rfl ?_
  refine a_iald (lyC_r _ (ix_lt hi9)) rfl dX5_clearColumn_70 ?_
  refine a_bvi fun t10 => ?_
  refine a_iload dX5_clearColumn_71 rfl ?_
  refine a_callNi (as := [vi x7, vi t10, vi x5]) mf_X5_61 (c_W_product F _ _ _ _) LYsame.rf dX5_clearColumn_73 rfl rfl rfl rfl rfl rfl (Or.inl rfl) fun r11 σ12 => ?_
  refine a_iload dX5_clearColumn_76 rfl ?_
  refine a_callNi (as := [vi t8, vi r11, vi x5]) mf_X5_64 (c_W_difference F _ _ _ _) LYsame.rf dX5_clearColumn_78 rfl rfl rfl rfl rfl rfl (Or.inl rfl) fun r13 σ14 => ?_
  refine a_iast (lyC_r _ (ix_lt hi6)) rfl dX5_clearColumn_81 fun σ15 => ?_
  refine a_bv fun x8_16 ex8_16 => ?_
  refine a_iinc (y := x8_16) (L' := [some (.ref 85), some (vi x1), some (vi x2), some (vi x3), some (vi x4), some (vi x5), some (vi x6), some (vi x7), some (vi x8_16)]) dX5_clearColumn_82 rfl ex8_16 rfl rfl rfl ?_
  refine a_goto dX5_clearColumn_85 rfl ?_
  exact hself _ _ _ _ _ _ _ _ _
set_option maxRecDepth 100000 in
set_option maxHeartbeats 4000000 in
theorem cl_Rows_clearColumn_34 {K : KX} {x : Bool} (F : Nat) (k3 : St → Int → Int → Int → Int → Int → Int → Option (Int × St)) (h3 : ∀ σ x1 x2 x3 x4 x5 x6, WA 2 0 0 cX5_clearColumn RX5 9 none (LYC x false false) (LYC x false false) K 3 [some (.ref 85), some (vi x1), some (vi x2), some (vi x3), some (vi x4), some (vi x5), some (vi x6), none, none] [] σ (k3 σ x1 x2 x3 x4 x5 x6)) : ∀ (n : Nat) (σ : St) (x1 x2 x3 x4 x5 x6 x7 x8 : Int), WA 2 0 0 cX5_clearColumn RX5 9 none (LYC x false false) (LYC x false false) K 34 [some (.ref 85), some (vi x1), some (vi x2), some (vi x3), some (vi x4), some (vi x5), some (vi x6), some (vi x7), some (vi x8)] [] σ (l_Rows_clearColumn_34 F k3 n σ x1 x2 x3 x4 x5 x6 x7 x8)
  | 0, _, _, _, _, _, _, _, _, _ => a_none
  | n + 1, σ, x1, x2, x3, x4, x5, x6, x7, x8 => cb_Rows_clearColumn_34 F k3 h3 _ (cl_Rows_clearColumn_34 F k3 h3 n) σ x1 x2 x3 x4 x5 x6 x7 x8
set_option maxRecDepth 100000 in
set_option maxHeartbeats 4000000 in
theorem cb_Rows_clearColumn_3 {K : KX} {x : Bool} (F : Nat) (self : St → Int → Int → Int → Int → Int → Int → Option (Int × St)) (hself : ∀ σ x1 x2 x3 x4 x5 x6, WA 2 0 0 cX5_clearColumn RX5 9 none (LYC x false false) (LYC x false false) K 3 [some (.ref 85), some (vi x1), some (vi x2), some (vi x3), some (vi x4), some (vi x5), some (vi x6), none, none] [] σ (self σ x1 x2 x3 x4 x5 x6)) (σ : St) (x1 x2 x3 x4 x5 x6 : Int) : WA 2 0 0 cX5_clearColumn RX5 9 none (LYC x false false) (LYC x false false) K 3 [some (.ref 85), some (vi x1), some (vi x2), some (vi x3), some (vi x4), some (vi x5), some (vi x6), none, none] [] σ (b_Rows_clearColumn_3 F self σ x1 x2 x3 x4 x5 x6) := by
  unfold b_Rows_clearColumn_3
  refine a_iload dX5_clearColumn_3 rfl ?_
  refine a_iload_n dX5_clearColumn_5 rfl ?_
  refine a_icmp_ge dX5_clearColumn_6 rfl (fun _ => ?_) (fun _ => ?_)
  · exact a_vret dX5_clearColumn_94
  refine a_aload_n dX5_clearColumn_9 rfl ?_
  refine a_getR (c0 := 86) fl_X5_13 lyC_85 rfl dX5_clearColumn_10 (key := 5440) rfl ?_
  refine a_iload dX5_clearColumn_13 rfl ?_
  refine a_aaldI lyC_86 rfl dX5_clearColumn_15 fun hi1 => ?_
  refine a_iload_n dX5_clearColumn_16 rfl ?_
  refine a_iald (lyC_r _ (ix_lt hi1)) rfl dX5_clearColumn_17 ?_
  refine a_bvi fun t2 => ?_
  refine a_istore (L' := [some (.ref 85), some (vi x1), some (vi x2), some (vi x3), some (vi x4), some (vi x5), some (vi x6), some (vi t2), none]) dX5_clearColumn_18 rfl rfl rfl rfl ?_
  refine a_iload dX5_clearColumn_20 rfl ?_
  refine a_iload_n dX5_clearColumn_22 rfl ?_
  refine a_icmp_eq dX5_clearColumn_23 rfl (fun _ => ?_) (fun _ => ?_)
  · refine a_bv fun x6_3 ex6_3 => ?_
    refine a_iinc (y := x6_3) (L' := [some (.ref 85), some (vi x1), some (vi x2), some (vi x3), some (vi x4), some (vi x5), some (vi x6_3), some (vi t2), none]) dX5_clearColumn_88 rfl ex6_3 rfl rfl rfl ?_
    refine a_goto dX5_clearColumn_91 rfl ?_
    exact a_L (lsub_get (A := [some (.ref 85), some (vi x1), some (vi x2), some (vi x3), some (vi x4), some (vi x5), some (vi x6_3), none, none]) ⟨rfl, ⟨rfl, ⟨rfl, ⟨rfl, ⟨rfl, ⟨rfl, ⟨rfl, trivial⟩⟩⟩⟩⟩⟩⟩) (hself _ _ _ _ _ _ _)
  refine a_iload dX5_clearColumn_26 rfl ?_
  refine a_if_eq dX5_clearColumn_28 rfl (fun _ => ?_) (fun _ => ?_)
  · refine a_bv fun x6_4 ex6_4 => ?_
    refine a_iinc (y := x6_4) (L' := [some (.ref 85), some (vi x1), some (vi x2), some (vi x3), some (vi x4), some (vi x5), some (vi x6_4), some (vi t2), none]) dX5_clearColumn_88 rfl ex6_4 rfl rfl rfl ?_
    refine a_goto dX5_clearColumn_91 rfl ?_
    exact a_L (lsub_get (A := [some (.ref 85), some (vi x1), some (vi x2), some (vi x3), some (vi x4), some (vi x5), some (vi x6_4), none, none]) ⟨rfl, ⟨rfl, ⟨rfl, ⟨rfl, ⟨rfl, ⟨rfl, ⟨rfl, trivial⟩⟩⟩⟩⟩⟩⟩) (hself _ _ _ _ _ _ _)
  refine a_iload_n dX5_clearColumn_31 rfl ?_
  refine a_istore (L' := [some (.ref 85), some (vi x1), some (vi x2), some (vi x3), some (vi x4), some (vi x5), some (vi x6), some (vi t2), some (vi x2)]) dX5_clearColumn_32 rfl rfl rfl rfl ?_
  exact cl_Rows_clearColumn_34 F _ hself F _ _ _ _ _ _ _ _ _
set_option maxRecDepth 100000 in
set_option maxHeartbeats 4000000 in
theorem cl_Rows_clearColumn_3 {K : KX} {x : Bool} (F : Nat) : ∀ (n : Nat) (σ : St) (x1 x2 x3 x4 x5 x6 : Int), WA 2 0 0 cX5_clearColumn RX5 9 none (LYC x false false) (LYC x false false) K 3 [some (.ref 85), some (vi x1), some (vi x2), some (vi x3), some (vi x4), some (vi x5), some (vi x6), none, none] [] σ (l_Rows_clearColumn_3 F n σ x1 x2 x3 x4 x5 x6)
  | 0, _, _, _, _, _, _, _ => a_none
  | n + 1, σ, x1, x2, x3, x4, x5, x6 => cb_Rows_clearColumn_3 F _ (cl_Rows_clearColumn_3 F n) σ x1 x2 x3 x4 x5 x6
set_option maxRecDepth 100000 in
set_option maxHeartbeats 4000000 in
theorem c_Rows_clearColumn {x : Bool} (F : Nat) (σ : St) (x1 x2 x3 x4 x5 : Int) : Ct 2 0 0 yX5_clearColumn cX5_clearColumn 9 none (LYC x false false) (LYC x false false) [.ref 85, vi x1, vi x2, vi x3, vi x4, vi x5] σ (f_Rows_clearColumn F σ x1 x2 x3 x4 x5) := by
  unfold f_Rows_clearColumn
  refine Ct_of (d := 2) (kp := 0) (kd := 0) (own := RX5) (nL := 9) (ret := none) (LY := (LYC x false false)) (LYe := (LYC x false false)) (L := [some (.ref 85), some (vi x1), some (vi x2), some (vi x3), some (vi x4), some (vi x5), none, none, none]) rfl (by decide +kernel) rfl rfl mf_X5_36.2.2.2.1 rfl fun K => ?_
  refine a_iconst dX5_clearColumn_0 ?_
  refine a_istore (L' := [some (.ref 85), some (vi x1), some (vi x2), some (vi x3), some (vi x4), some (vi x5), some (vi 0), none, none]) dX5_clearColumn_1 rfl rfl rfl rfl ?_
  exact cl_Rows_clearColumn_3 F F _ _ _ _ _ _ _
def b_Rows_reduce_6 (F : Nat) (self : St → Int → Int → Int → Int → Int → Int → Option (Int × St)) (σ : St) (x1 x2 x3 x4 x5 x6 : Int) : Option (Int × St) := gd (rng x6 ∧ rng x3) (if x3 ≤ x6 then some (x5, σ) else gd (rng x5 ∧ rng x1) (if x1 ≤ x5 then some (x5, σ) else bnd (f_Rows_rowWith F σ x6 x5 x1) fun r1 σ2 => gd (rng r1 ∧ rng (-1)) (if r1 = (-1) then bv (x6 + 1) fun x6_3 => self σ2 x1 x2 x3 x4 x5 x6_3 else bnd (f_Rows_exchange F σ2 x5 r1) fun r4 σ5 => gd (inb x5 46) (gd (inb x6 70) (bv (gA σ5 (103 + (Int.toNat x5)) (Int.toNat x6)) fun t7 => bnd (f_W_inverse F σ5 t7 x4) fun r8 σ9 => bnd (f_Rows_scaleRow F σ9 x5 x2 r8 x4) fun r10 σ11 => bnd (f_Rows_clearColumn F σ11 x5 x6 x1 x2 x4) fun r12 σ13 => gd (inb x5 46) (bs (sA σ13 87 (Int.toNat x5) x6) fun σ14 => bv (x5 + 1) fun x5_15 => bv (x6 + 1) fun x6_16 => self σ14 x1 x2 x3 x4 x5_15 x6_16))))))
def l_Rows_reduce_6 (F : Nat) : Nat → St → Int → Int → Int → Int → Int → Int → Option (Int × St)
  | 0 => fun _ _ _ _ _ _ _ => none
  | n + 1 => fun σ x1 x2 x3 x4 x5 x6 => b_Rows_reduce_6 F (l_Rows_reduce_6 F n) σ x1 x2 x3 x4 x5 x6
def f_Rows_reduce (F : Nat) (σ : St) (x1 x2 x3 x4 : Int) : Option (Int × St) := l_Rows_reduce_6 F F σ x1 x2 x3 x4 0 0
set_option maxRecDepth 100000 in
set_option maxHeartbeats 4000000 in
theorem cb_Rows_reduce_6 {K : KX} {x : Bool} (F : Nat) (self : St → Int → Int → Int → Int → Int → Int → Option (Int × St)) (hself : ∀ σ x1 x2 x3 x4 x5 x6, WA 3 1 1 cX5_reduce RX5 8 (some .int) (LYC x false false) (LYC x false false) K 6 [some (.ref 85), some (vi x1), some (vi x2), some (vi x3), some (vi x4), some (vi x5), some (vi x6), none] [] σ (self σ x1 x2 x3 x4 x5 x6)) (σ : St) (x1 x2 x3 x4 x5 x6 : Int) : WA 3 1 1 cX5_reduce RX5 8 (some .int) (LYC x false false) (LYC x false false) K 6 [some (.ref 85), some (vi x1), some (vi x2), some (vi x3), some (vi x4), some (vi x5), some (vi x6), none] [] σ (b_Rows_reduce_6 F self σ x1 x2 x3 x4 x5 x6) := by
  unfold b_Rows_reduce_6
  refine a_iload dX5_reduce_6 rfl ?_
  refine a_iload_n dX5_reduce_8 rfl ?_
  refine a_icmp_ge dX5_reduce_9 rfl (fun _ => ?_) (fun _ => ?_)
  · refine a_iload dX5_reduce_97 rfl ?_
    exact a_iret dX5_reduce_99
  refine a_iload dX5_reduce_12 rfl ?_
  refine a_iload_n dX5_reduce_14 rfl ?_
  refine a_icmp_ge dX5_reduce_15 rfl (fun _ => ?_) (fun _ => ?_)
  · refine a_iload dX5_reduce_97 rfl ?_
    exact a_iret dX5_reduce_99
  refine a_aload_n dX5_reduce_18 rfl ?_
  refine a_iload dX5_reduce_19 rfl ?_
  refine a_iload dX5_reduce_21 rfl ?_
  refine a_iload_n dX5_reduce_23 rfl ?_
  refine a_callVi (as := [vi x6, vi x5, vi x1]) mf_X5_20 lyC_85 rfl (c_Rows_rowWith F _ _ _ _) LYsame.rf dX5_reduce_24 rfl rfl rfl rfl rfl rfl (Or.inl rfl) fun r1 σ2 => ?_
  refine a_istore (L' := [some (.ref 85), some (vi x1), some (vi x2), some (vi x3), some (vi x4), some (vi x5), some (vi x6), some (vi r1)]) dX5_reduce_27 rfl rfl rfl rfl ?_
  refine a_iload dX5_reduce_29 rfl ?_
  refine a_iconst dX5_reduce_31 ?_
  refine a_icmp_eq dX5_reduce_32 rfl (fun _ => ?_) (fun _ => ?_)
  · refine a_bv fun x6_3 ex6_3 => ?_
    refine a_iinc (y := x6_3) (L' := [some (.ref 85), some (vi x1), some (vi x2), some (vi x3), some (vi x4), some (vi x5), some (vi x6_3), some (vi r1)]) dX5_reduce_91 rfl ex6_3 rfl rfl rfl ?_
    refine a_goto dX5_reduce_94 rfl ?_
    exact a_L (lsub_get (A := [some (.ref 85), some (vi x1), some (vi x2), some (vi x3), some (vi x4), some (vi x5), some (vi x6_3), none]) ⟨rfl, ⟨rfl, ⟨rfl, ⟨rfl, ⟨rfl, ⟨rfl, ⟨rfl, trivial⟩⟩⟩⟩⟩⟩⟩) (hself _ _ _ _ _ _ _)
  refine a_aload_n dX5_reduce_35 rfl ?_
  refine a_iload dX5_reduce_36 rfl ?_
  refine a_iload dX5_reduce_38 rfl ?_
  refine a_callVv (as := [vi x5, vi r1]) mf_X5_24 lyC_85 rfl (c_Rows_exchange F _ _ _) LYsame.rf dX5_reduce_40 rfl rfl rfl rfl rfl rfl (Or.inr rfl) fun r4 σ5 => ?_
  refine a_aload_n dX5_reduce_43 rfl ?_
  refine a_iload dX5_reduce_44 rfl ?_
  refine a_iload_n dX5_reduce_46 rfl ?_
  refine a_aload_n dX5_reduce_47 rfl ?_
  refine a_getR (c0 := 86) fl_X5_13 lyC_85 rfl dX5_reduce_48 (key := 5440) rfl ?_
  refine a_iload dX5_reduce_51 rfl ?_
  refine a_aaldI lyC_86 rfl dX5_reduce_53 fun hi6 => ?_
  refine a_iload dX5_reduce_54 rfl ?_
  refine a_iald (lyC_r _ (ix_lt hi6)) rfl dX5_reduce_56 ?_
  refine a_bvi fun t7 => ?_
  refine a_iload dX5_reduce_57 rfl ?_
  refine a_callNi (as := [vi t7, vi x4]) mf_X5_28 (c_W_inverse F _ _ _) LYsame.rf dX5_reduce_59 rfl rfl rfl rfl rfl rfl (Or.inl rfl) fun r8 σ9 => ?_
  refine a_iload dX5_reduce_62 rfl ?_
  refine a_callVv (as := [vi x5, vi x2, vi r8, vi x4]) mf_X5_32 lyC_85 rfl (c_Rows_scaleRow F _ _ _ _ _) LYsame.rf dX5_reduce_64 rfl rfl rfl rfl rfl rfl (Or.inl rfl) fun r10 σ11 => ?_
  refine a_aload_n dX5_reduce_67 rfl ?_
  refine a_iload dX5_reduce_68 rfl ?_
  refine a_iload dX5_reduce_70 rfl ?_
  refine a_iload_n dX5_reduce_72 rfl ?_
  refine a_iload_n dX5_reduce_73 rfl ?_
  refine a_iload dX5_reduce_74 rfl ?_
  refine a_callVv (as := [vi x5, vi x6, vi x1, vi x2, vi x4]) mf_X5_36 lyC_85 rfl (c_Rows_clearColumn F _ _ _ _ _ _) LYsame.rf dX5_reduce_76 rfl rfl rfl rfl rfl rfl (Or.inl rfl) fun r12 σ13 => ?_
  refine a_aload_n dX5_reduce_79 rfl ?_
  refine a_getR (c0 := 87) fl_X5_16 lyC_85 rfl dX5_reduce_80 (key := 5441) rfl ?_
  refine a_iload dX5_reduce_83 rfl ?_
  refine a_iload dX5_reduce_85 rfl ?_
  refine a_iast lyC_87 rfl dX5_reduce_87 fun σ14 => ?_
  refine a_bv fun x5_15 ex5_15 => ?_
  refine a_iinc (y := x5_15) (L' := [some (.ref 85), some (vi x1), some (vi x2), some (vi x3), some (vi x4), some (vi x5_15), some (vi x6), some (vi r1)]) dX5_reduce_88 rfl ex5_15 rfl rfl rfl ?_
  refine a_bv fun x6_16 ex6_16 => ?_
  refine a_iinc (y := x6_16) (L' := [some (.ref 85), some (vi x1), some (vi x2), some (vi x3), some (vi x4), some (vi x5_15), some (vi x6_16), some (vi r1)]) dX5_reduce_91 rfl ex6_16 rfl rfl rfl ?_
  refine a_goto dX5_reduce_94 rfl ?_
  exact a_L (lsub_get (A := [some (.ref 85), some (vi x1), some (vi x2), some (vi x3), some (vi x4), some (vi x5_15), some (vi x6_16), none]) ⟨rfl, ⟨rfl, ⟨rfl, ⟨rfl, ⟨rfl, ⟨rfl, ⟨rfl, trivial⟩⟩⟩⟩⟩⟩⟩) (hself _ _ _ _ _ _ _)
set_option maxRecDepth 100000 in
set_option maxHeartbeats 4000000 in
theorem cl_Rows_reduce_6 {K : KX} {x : Bool} (F : Nat) : ∀ (n : Nat) (σ : St) (x1 x2 x3 x4 x5 x6 : Int), WA 3 1 1 cX5_reduce RX5 8 (some .int) (LYC x false false) (LYC x false false) K 6 [some (.ref 85), some (vi x1), some (vi x2), some (vi x3), some (vi x4), some (vi x5), some (vi x6), none] [] σ (l_Rows_reduce_6 F n σ x1 x2 x3 x4 x5 x6)
  | 0, _, _, _, _, _, _, _ => a_none
  | n + 1, σ, x1, x2, x3, x4, x5, x6 => cb_Rows_reduce_6 F _ (cl_Rows_reduce_6 F n) σ x1 x2 x3 x4 x5 x6
set_option maxRecDepth 100000 in
set_option maxHeartbeats 4000000 in
theorem c_Rows_reduce {x : Bool} (F : Nat) (σ : St) (x1 x2 x3 x4 : Int) : Ct 3 1 1 yX5_reduce cX5_reduce 8 (some .int) (LYC x false false) (LYC x false false) [.ref 85, vi x1, vi x2, vi x3, vi x4] σ (f_Rows_reduce F σ x1 x2 x3 x4) := by
  unfold f_Rows_reduce
  refine Ct_of (d := 3) (kp := 1) (kd := 1) (own := RX5) (nL := 8) (ret := (some .int)) (LY := (LYC x false false)) (LYe := (LYC x false false)) (L := [some (.ref 85), some (vi x1), some (vi x2), some (vi x3), some (vi x4), none, none, none]) rfl (by decide +kernel) rfl rfl mf_X10_181.2.2.2.1 rfl fun K => ?_
  refine a_iconst dX5_reduce_0 ?_
  refine a_istore (L' := [some (.ref 85), some (vi x1), some (vi x2), some (vi x3), some (vi x4), some (vi 0), none, none]) dX5_reduce_1 rfl rfl rfl rfl ?_
  refine a_iconst dX5_reduce_3 ?_
  refine a_istore (L' := [some (.ref 85), some (vi x1), some (vi x2), some (vi x3), some (vi x4), some (vi 0), some (vi 0), none]) dX5_reduce_4 rfl rfl rfl rfl ?_
  exact cl_Rows_reduce_6 F F _ _ _ _ _ _ _
def f_W_order (F : Nat) (σ : St) : Option (Int × St) := bv (gF σ 5059) fun x1_1 => bnd (f_W_fillCover F σ x1_1) fun r2 σ3 => bnd (f_Rows_reduce F σ3 x1_1 x1_1 x1_1 (gF σ3 1473)) fun r4 σ5 => some (r4, σ5)
set_option maxRecDepth 100000 in
set_option maxHeartbeats 4000000 in
theorem c_W_order {x : Bool} (F : Nat) (σ : St) : Ct 6 1 1 yX10_order cX10_order 2 (some .int) (LYC x false false) (LYC x false false) [.ref 0] σ (f_W_order F σ) := by
  unfold f_W_order
  refine Ct_of (d := 6) (kp := 1) (kd := 1) (own := RX10) (nL := 2) (ret := (some .int)) (LY := (LYC x false false)) (LYe := (LYC x false false)) (L := [some (.ref 0), none]) rfl (by decide +kernel) rfl rfl mf_L_74.2.2.2.1 rfl fun K => ?_
  refine a_aload_n dX10_order_0 rfl ?_
  refine a_getR (c0 := 79) fl_X10_26 lyC_0 rfl dX10_order_1 (key := 2) rfl ?_
  refine a_getI fl_X10_172 lyC_79 rfl dX10_order_4 (key := 5059) rfl ?_
  refine a_bv fun x1_1 ex1_1 => ?_
  refine a_istore_n (y := x1_1) (L' := [some (.ref 0), some (vi x1_1)]) dX10_order_7 ex1_1 rfl rfl rfl ?_
  refine a_aload_n dX10_order_8 rfl ?_
  refine a_iload_n dX10_order_9 rfl ?_
  refine a_callVv (as := [vi x1_1]) mf_X10_175 lyC_0 rfl (c_W_fillCover F _ _) LYsame.rf dX10_order_10 rfl rfl rfl rfl rfl rfl (Or.inl rfl) fun r2 σ3 => ?_
  refine a_aload_n dX10_order_13 rfl ?_
  refine a_getR (c0 := 85) fl_X10_44 lyC_0 rfl dX10_order_14 (key := 6) rfl ?_
  refine a_iload_n dX10_order_17 rfl ?_
  refine a_iload_n dX10_order_18 rfl ?_
  refine a_iload_n dX10_order_19 rfl ?_
  refine a_aload_n dX10_order_20 rfl ?_
  refine a_getR (c0 := 79) fl_X10_26 lyC_0 rfl dX10_order_21 (key := 2) rfl ?_
  refine a_getR (c0 := 23) fl_X10_153 lyC_79 rfl dX10_order_24 (key := 5056) rfl ?_
  refine a_getI fl_X10_178 lyC_23 rfl dX10_order_27 (key := 1473) rfl ?_
  refine a_callVi (as := [vi x1_1, vi x1_1, vi x1_1, vi (gF σ3 1473)]) mf_X10_181 lyC_85 rfl (c_Rows_reduce F _ _ _ _ _) LYsame.rf dX10_order_30 rfl rfl rfl rfl rfl rfl (Or.inr rfl) fun r4 σ5 => ?_
  exact a_iret dX10_order_33
def b_Rows_columnsMade_lattice0_23 (F : Nat) (self : St → Int → Int → Int → Int → Option (Int × St)) (σ : St) (x1 x3 x4 x6 : Int) : Option (Int × St) := gd (rng x6 ∧ rng (gF σ 1472)) (if (gF σ 1472) ≤ x6 then some (x4, σ) else bnd (f_Rows_rowWith F σ (x1 + x6) x3 x1) fun r3 σ4 => gd (rng r3 ∧ rng (-1)) (if r3 = (-1) then gd (sh6 x6) (bv (lorI x4 (1 * 2 ^ (Int.toNat x6))) fun t6 => bv (x6 + 1) fun x6_7 => self σ4 x1 x3 t6 x6_7) else bv (x6 + 1) fun x6_5 => self σ4 x1 x3 x4 x6_5))
def l_Rows_columnsMade_lattice0_23 (F : Nat) : Nat → St → Int → Int → Int → Int → Option (Int × St)
  | 0 => fun _ _ _ _ _ => none
  | n + 1 => fun σ x1 x3 x4 x6 => b_Rows_columnsMade_lattice0_23 F (l_Rows_columnsMade_lattice0_23 F n) σ x1 x3 x4 x6
def f_Rows_columnsMade_lattice0 (F : Nat) (σ : St) (x1 : Int) : Option (Int × St) := bnd (f_Rows_reduce F σ x1 (x1 + (gF σ 1472)) x1 (gF σ 1473)) fun r1 σ2 => l_Rows_columnsMade_lattice0_23 F F σ2 x1 r1 0 0
set_option maxRecDepth 100000 in
set_option maxHeartbeats 4000000 in
theorem cb_Rows_columnsMade_lattice0_23 {K : KX} {x : Bool} (F : Nat) (self : St → Int → Int → Int → Int → Option (Int × St)) (hself : ∀ σ x1 x3 x4 x6, WA 4 1 2 cX5_columnsMade RX5 7 (some .long) (LYC x false false) (LYC x false false) K 23 [some (.ref 85), some (vi x1), some (.ref 23), some (vi x3), some (vl x4), none, some (vi x6)] [] σ (self σ x1 x3 x4 x6)) (σ : St) (x1 x3 x4 x6 : Int) : WA 4 1 2 cX5_columnsMade RX5 7 (some .long) (LYC x false false) (LYC x false false) K 23 [some (.ref 85), some (vi x1), some (.ref 23), some (vi x3), some (vl x4), none, some (vi x6)] [] σ (b_Rows_columnsMade_lattice0_23 F self σ x1 x3 x4 x6) := by
  unfold b_Rows_columnsMade_lattice0_23
  refine a_iload dX5_columnsMade_23 rfl ?_
  refine a_aload_n dX5_columnsMade_25 rfl ?_
  refine a_getI fl_X5_40 lyC_23 rfl dX5_columnsMade_26 (key := 1472) rfl ?_
  refine a_icmp_ge dX5_columnsMade_29 rfl (fun _ => ?_) (fun _ => ?_)
  · refine a_lload dX5_columnsMade_61 rfl ?_
    exact a_lret dX5_columnsMade_63
  refine a_aload_n dX5_columnsMade_32 rfl ?_
  refine a_iload_n dX5_columnsMade_33 rfl ?_
  refine a_iload dX5_columnsMade_34 rfl ?_
  refine a_iadd dX5_columnsMade_36 ?_
  refine a_iload_n dX5_columnsMade_37 rfl ?_
  refine a_iload_n dX5_columnsMade_38 rfl ?_
  refine a_callVi (as := [vi (x1 + x6), vi x3, vi x1]) mf_X5_20 lyC_85 rfl (c_Rows_rowWith F _ _ _ _) LYsame.rf dX5_columnsMade_39 rfl rfl rfl rfl rfl rfl (Or.inl rfl) fun r3 σ4 => ?_
  refine a_iconst dX5_columnsMade_42 ?_
  refine a_icmp_ne dX5_columnsMade_43 rfl (fun _ => ?_) (fun _ => ?_)
  · refine a_bv fun x6_5 ex6_5 => ?_
    refine a_iinc (y := x6_5) (L' := [some (.ref 85), some (vi x1), some (.ref 23), some (vi x3), some (vl x4), none, some (vi x6_5)]) dX5_columnsMade_55 rfl ex6_5 rfl rfl rfl ?_
    refine a_goto dX5_columnsMade_58 rfl ?_
    exact hself _ _ _ _ _
  refine a_lload dX5_columnsMade_46 rfl ?_
  refine a_lconst (v := 1) dX5_columnsMade_48 rfl ?_
  refine a_iload dX5_columnsMade_49 rfl ?_
  refine a_lshl dX5_columnsMade_51 (fun _ => ?_)
  refine a_lor dX5_columnsMade_52 ?_
  refine a_bvl fun t6 => ?_
  refine a_lstore (L' := [some (.ref 85), some (vi x1), some (.ref 23), some (vi x3), some (vl t6), none, some (vi x6)]) dX5_columnsMade_53 rfl rfl rfl rfl ?_
  refine a_bv fun x6_7 ex6_7 => ?_
  refine a_iinc (y := x6_7) (L' := [some (.ref 85), some (vi x1), some (.ref 23), some (vi x3), some (vl t6), none, some (vi x6_7)]) dX5_columnsMade_55 rfl ex6_7 rfl rfl rfl ?_
  refine a_goto dX5_columnsMade_58 rfl ?_
  exact hself _ _ _ _ _
set_option maxRecDepth 100000 in
set_option maxHeartbeats 4000000 in
theorem cl_Rows_columnsMade_lattice0_23 {K : KX} {x : Bool} (F : Nat) : ∀ (n : Nat) (σ : St) (x1 x3 x4 x6 : Int), WA 4 1 2 cX5_columnsMade RX5 7 (some .long) (LYC x false false) (LYC x false false) K 23 [some (.ref 85), some (vi x1), some (.ref 23), some (vi x3), some (vl x4), none, some (vi x6)] [] σ (l_Rows_columnsMade_lattice0_23 F n σ x1 x3 x4 x6)
  | 0, _, _, _, _, _ => a_none
  | n + 1, σ, x1, x3, x4, x6 => cb_Rows_columnsMade_lattice0_23 F _ (cl_Rows_columnsMade_lattice0_23 F n) σ x1 x3 x4 x6
set_option maxRecDepth 100000 in
set_option maxHeartbeats 4000000 in
theorem c_Rows_columnsMade_lattice0 {x : Bool} (F : Nat) (σ : St) (x1 : Int) : Ct 4 1 2 yX5_columnsMade cX5_columnsMade 7 (some .long) (LYC x false false) (LYC x false false) [.ref 85, vi x1, .ref 23] σ (f_Rows_columnsMade_lattice0 F σ x1) := by
  unfold f_Rows_columnsMade_lattice0
  refine Ct_of (d := 4) (kp := 1) (kd := 2) (own := RX5) (nL := 7) (ret := (some .long)) (LY := (LYC x false false)) (LYe := (LYC x false false)) (L := [some (.ref 85), some (vi x1), some (.ref 23), none, none, none, none]) rfl (by decide +kernel) rfl rfl mf_X10_195.2.2.2.1 rfl fun K => ?_
  refine a_aload_n dX5_columnsMade_0 rfl ?_
  refine a_iload_n dX5_columnsMade_1 rfl ?_
  refine a_iload_n dX5_columnsMade_2 rfl ?_
  refine a_aload_n dX5_columnsMade_3 rfl ?_
  refine a_getI fl_X5_40 lyC_23 rfl dX5_columnsMade_4 (key := 1472) rfl ?_
  refine a_iadd dX5_columnsMade_7 ?_
  refine a_iload_n dX5_columnsMade_8 rfl ?_
  refine a_aload_n dX5_columnsMade_9 rfl ?_
  refine a_getI fl_X5_46 lyC_23 rfl dX5_columnsMade_10 (key := 1473) rfl ?_
  refine a_callVi (as := [vi x1, vi (x1 + (gF σ 1472)), vi x1, vi (gF σ 1473)]) mf_X5_49 lyC_85 rfl (c_Rows_reduce F _ _ _ _ _) LYsame.rf dX5_columnsMade_13 rfl rfl rfl rfl rfl rfl (Or.inr rfl) fun r1 σ2 => ?_
  refine a_istore_n (L' := [some (.ref 85), some (vi x1), some (.ref 23), some (vi r1), none, none, none]) dX5_columnsMade_16 rfl rfl rfl rfl ?_
  refine a_lconst (v := 0) dX5_columnsMade_17 rfl ?_
  refine a_lstore (L' := [some (.ref 85), some (vi x1), some (.ref 23), some (vi r1), some (vl 0), none, none]) dX5_columnsMade_18 rfl rfl rfl rfl ?_
  refine a_iconst dX5_columnsMade_20 ?_
  refine a_istore (L' := [some (.ref 85), some (vi x1), some (.ref 23), some (vi r1), some (vl 0), none, some (vi 0)]) dX5_columnsMade_21 rfl rfl rfl rfl ?_
  exact cl_Rows_columnsMade_lattice0_23 F F _ _ _ _ _
def f_Scene_gainedWave_scene0 (F : Nat) (σ : St) (x1 x2 : Int) : Option (Int × St) := gd (inb x1 10) (gd (inb x1 10) (bnd (f_Lattice_waveAt_lattice0 F σ x2 (gA σ 55 (Int.toNat x1))) fun r1 σ2 => bnd (f_W_product F σ2 (gA σ 59 (Int.toNat x1)) r1 (gF σ2 1473)) fun r3 σ4 => some (r3, σ4)))
set_option maxRecDepth 100000 in
set_option maxHeartbeats 4000000 in
theorem c_Scene_gainedWave_scene0 {x : Bool} (F : Nat) (σ : St) (x1 x2 : Int) : Ct 2 0 1 yX7_gainedWave cX7_gainedWave 3 (some .int) (LYC x false false) (LYC x false false) [.ref 79, vi x1, vi x2] σ (f_Scene_gainedWave_scene0 F σ x1 x2) := by
  unfold f_Scene_gainedWave_scene0
  refine Ct_of (d := 2) (kp := 0) (kd := 1) (own := RX7) (nL := 3) (ret := (some .int)) (LY := (LYC x false false)) (LYe := (LYC x false false)) (L := [some (.ref 79), some (vi x1), some (vi x2)]) rfl (by decide +kernel) rfl rfl mf_X10_192.2.2.2.1 rfl fun K => ?_
  refine a_aload_n dX7_gainedWave_0 rfl ?_
  refine a_getR (c0 := 59) fl_X7_29 lyC_79 rfl dX7_gainedWave_1 (key := 5061) rfl ?_
  refine a_iload_n dX7_gainedWave_4 rfl ?_
  refine a_iald lyC_59 rfl dX7_gainedWave_5 ?_
  refine a_aload_n dX7_gainedWave_6 rfl ?_
  refine a_getR (c0 := 23) fl_X7_12 lyC_79 rfl dX7_gainedWave_7 (key := 5056) rfl ?_
  refine a_iload_n dX7_gainedWave_10 rfl ?_
  refine a_aload_n dX7_gainedWave_11 rfl ?_
  refine a_getR (c0 := 55) fl_X7_25 lyC_79 rfl dX7_gainedWave_12 (key := 5060) rfl ?_
  refine a_iload_n dX7_gainedWave_15 rfl ?_
  refine a_iald lyC_55 rfl dX7_gainedWave_16 ?_
  refine a_callVi (as := [vi x2, vi (gA σ 55 (Int.toNat x1))]) mf_X7_76 lyC_23 rfl (c_Lattice_waveAt_lattice0 F _ _ _) LYsame.rf dX7_gainedWave_17 rfl rfl rfl rfl rfl rfl (Or.inl rfl) fun r1 σ2 => ?_
  refine a_aload_n dX7_gainedWave_20 rfl ?_
  refine a_getR (c0 := 23) fl_X7_12 lyC_79 rfl dX7_gainedWave_21 (key := 5056) rfl ?_
  refine a_getI fl_X7_80 lyC_23 rfl dX7_gainedWave_24 (key := 1473) rfl ?_
  refine a_callNi (as := [vi (gA σ 59 (Int.toNat x1)), vi r1, vi (gF σ2 1473)]) mf_X7_83 (c_W_product F _ _ _ _) LYsame.rf dX7_gainedWave_27 rfl rfl rfl rfl rfl rfl (Or.inl rfl) fun r3 σ4 => ?_
  exact a_iret dX7_gainedWave_30
def b_W_seen_22 (F : Nat) (k15 : St → Int → Int → Option (Int × St)) (self : St → Int → Int → Int → Option (Int × St)) (σ : St) (x1 x2 x3 : Int) : Option (Int × St) := gd (rng x3 ∧ rng (gF σ 1472)) (if (gF σ 1472) ≤ x3 then bv (x2 + 1) fun x2_6 => k15 σ x1 x2_6 else gd (inb x2 46) (bnd (f_Scene_gainedWave_scene0 F σ x2 x3) fun r8 σ9 => gd (inb (x1 + x3) 70) (bs (sA σ9 (103 + (Int.toNat x2)) (Int.toNat (x1 + x3)) r8) fun σ10 => bv (x3 + 1) fun x3_11 => self σ10 x1 x2 x3_11)))
def l_W_seen_22 (F : Nat) (k15 : St → Int → Int → Option (Int × St)) : Nat → St → Int → Int → Int → Option (Int × St)
  | 0 => fun _ _ _ _ => none
  | n + 1 => fun σ x1 x2 x3 => b_W_seen_22 F k15 (l_W_seen_22 F k15 n) σ x1 x2 x3
def b_W_seen_15 (F : Nat) (self : St → Int → Int → Option (Int × St)) (σ : St) (x1 x2 : Int) : Option (Int × St) := gd (rng x2 ∧ rng x1) (if x1 ≤ x2 then bnd (f_Rows_columnsMade_lattice0 F σ x1) fun r4 σ5 => some (r4, σ5) else l_W_seen_22 F self F σ x1 x2 0)
def l_W_seen_15 (F : Nat) : Nat → St → Int → Int → Option (Int × St)
  | 0 => fun _ _ _ => none
  | n + 1 => fun σ x1 x2 => b_W_seen_15 F (l_W_seen_15 F n) σ x1 x2
def f_W_seen (F : Nat) (σ : St) : Option (Int × St) := bv (gF σ 5059) fun x1_1 => bnd (f_W_fillCover F σ x1_1) fun r2 σ3 => l_W_seen_15 F F σ3 x1_1 0
set_option maxRecDepth 100000 in
set_option maxHeartbeats 4000000 in
theorem cb_W_seen_22 {K : KX} {x : Bool} (F : Nat) (k15 : St → Int → Int → Option (Int × St)) (h15 : ∀ σ x1 x2, WA 6 1 2 cX10_seen RX10 4 (some .long) (LYC x false false) (LYC x false false) K 15 [some (.ref 0), some (vi x1), some (vi x2), none] [] σ (k15 σ x1 x2)) (self : St → Int → Int → Int → Option (Int × St)) (hself : ∀ σ x1 x2 x3, WA 6 1 2 cX10_seen RX10 4 (some .long) (LYC x false false) (LYC x false false) K 22 [some (.ref 0), some (vi x1), some (vi x2), some (vi x3)] [] σ (self σ x1 x2 x3)) (σ : St) (x1 x2 x3 : Int) : WA 6 1 2 cX10_seen RX10 4 (some .long) (LYC x false false) (LYC x false false) K 22 [some (.ref 0), some (vi x1), some (vi x2), some (vi x3)] [] σ (b_W_seen_22 F k15 self σ x1 x2 x3) := by
  unfold b_W_seen_22
  refine a_iload_n dX10_seen_22 rfl ?_
  refine a_aload_n dX10_seen_23 rfl ?_
  refine a_getR (c0 := 79) fl_X10_26 lyC_0 rfl dX10_seen_24 (key := 2) rfl ?_
  refine a_getR (c0 := 23) fl_X10_153 lyC_79 rfl dX10_seen_27 (key := 5056) rfl ?_
  refine a_getI fl_X10_185 lyC_23 rfl dX10_seen_30 (key := 1472) rfl ?_
  refine a_icmp_ge dX10_seen_33 rfl (fun _ => ?_) (fun _ => ?_)
  · refine a_bv fun x2_6 ex2_6 => ?_
    refine a_iinc (y := x2_6) (L' := [some (.ref 0), some (vi x1), some (vi x2_6), some (vi x3)]) dX10_seen_64 rfl ex2_6 rfl rfl rfl ?_
    refine a_goto dX10_seen_67 rfl ?_
    exact a_L (lsub_get (A := [some (.ref 0), some (vi x1), some (vi x2_6), none]) ⟨rfl, ⟨rfl, ⟨rfl, trivial⟩⟩⟩) (h15 _ _ _)
  refine a_aload_n dX10_seen_36 rfl ?_
  refine a_getR (c0 := 85) fl_X10_44 lyC_0 rfl dX10_seen_37 (key := 6) rfl ?_
  refine a_getR (c0 := 86) fl_X10_188 lyC_85 rfl dX10_seen_40 (key := 5440) rfl ?_
  refine a_iload_n dX10_seen_43 rfl ?_
  refine a_aaldI lyC_86 rfl dX10_seen_44 fun hi7 => ?_
  refine a_iload_n dX10_seen_45 rfl ?_
  refine a_iload_n dX10_seen_46 rfl ?_
  refine a_iadd dX10_seen_47 ?_
  refine a_aload_n dX10_seen_48 rfl ?_
  refine a_getR (c0 := 79) fl_X10_26 lyC_0 rfl dX10_seen_49 (key := 2) rfl ?_
  refine a_iload_n dX10_seen_52 rfl ?_
  refine a_iload_n dX10_seen_53 rfl ?_
  refine a_callVi (as := [vi x2, vi x3]) mf_X10_192 lyC_79 rfl (c_Scene_gainedWave_scene0 F _ _ _) LYsame.rf dX10_seen_54 rfl rfl rfl rfl rfl rfl (Or.inl rfl) fun r8 σ9 => ?_
  refine a_iast (lyC_r _ (ix_lt hi7)) rfl dX10_seen_57 fun σ10 => ?_
  refine a_bv fun x3_11 ex3_11 => ?_
  refine a_iinc (y := x3_11) (L' := [some (.ref 0), some (vi x1), some (vi x2), some (vi x3_11)]) dX10_seen_58 rfl ex3_11 rfl rfl rfl ?_
  refine a_goto dX10_seen_61 rfl ?_
  exact hself _ _ _ _
set_option maxRecDepth 100000 in
set_option maxHeartbeats 4000000 in
theorem cl_W_seen_22 {K : KX} {x : Bool} (F : Nat) (k15 : St → Int → Int → Option (Int × St)) (h15 : ∀ σ x1 x2, WA 6 1 2 cX10_seen RX10 4 (some .long) (LYC x false false) (LYC x false false) K 15 [some (.ref 0), some (vi x1), some (vi x2), none] [] σ (k15 σ x1 x2)) : ∀ (n : Nat) (σ : St) (x1 x2 x3 : Int), WA 6 1 2 cX10_seen RX10 4 (some .long) (LYC x false false) (LYC x false false) K 22 [some (.ref 0), some (vi x1), some (vi x2), some (vi x3)] [] σ (l_W_seen_22 F k15 n σ x1 x2 x3)
  | 0, _, _, _, _ => a_none
  | n + 1, σ, x1, x2, x3 => cb_W_seen_22 F k15 h15 _ (cl_W_seen_22 F k15 h15 n) σ x1 x2 x3
set_option maxRecDepth 100000 in
set_option maxHeartbeats 4000000 in
theorem cb_W_seen_15 {K : KX} {x : Bool} (F : Nat) (self : St → Int → Int → Option (Int × St)) (hself : ∀ σ x1 x2, WA 6 1 2 cX10_seen RX10 4 (some .long) (LYC x false false) (LYC x false false) K 15 [some (.ref 0), some (vi x1), some (vi x2), none] [] σ (self σ x1 x2)) (σ : St) (x1 x2 : Int) : WA 6 1 2 cX10_seen RX10 4 (some .long) (LYC x false false) (LYC x false false) K 15 [some (.ref 0), some (vi x1), some (vi x2), none] [] σ (b_W_seen_15 F self σ x1 x2) := by
  unfold b_W_seen_15
  refine a_iload_n dX10_seen_15 rfl ?_
  refine a_iload_n dX10_seen_16 rfl ?_
  refine a_icmp_ge dX10_seen_17 rfl (fun _ => ?_) (fun _ => ?_)
  · refine a_aload_n dX10_seen_70 rfl ?_
    refine a_getR (c0 := 85) fl_X10_44 lyC_0 rfl dX10_seen_71 (key := 6) rfl ?_
    refine a_iload_n dX10_seen_74 rfl ?_
    refine a_aload_n dX10_seen_75 rfl ?_
    refine a_getR (c0 := 79) fl_X10_26 lyC_0 rfl dX10_seen_76 (key := 2) rfl ?_
    refine a_getR (c0 := 23) fl_X10_153 lyC_79 rfl dX10_seen_79 (key := 5056) rfl ?_
    refine a_callVl (as := [vi x1, .ref 23]) mf_X10_195 lyC_85 rfl (c_Rows_columnsMade_lattice0 F _ _) LYsame.rf dX10_seen_82 rfl rfl rfl rfl rfl rfl (Or.inr rfl) fun r4 σ5 => ?_
    exact a_lret dX10_seen_85
  refine a_iconst dX10_seen_20 ?_
  refine a_istore_n (L' := [some (.ref 0), some (vi x1), some (vi x2), some (vi 0)]) dX10_seen_21 rfl rfl rfl rfl ?_
  exact cl_W_seen_22 F _ hself F _ _ _ _
set_option maxRecDepth 100000 in
set_option maxHeartbeats 4000000 in
theorem cl_W_seen_15 {K : KX} {x : Bool} (F : Nat) : ∀ (n : Nat) (σ : St) (x1 x2 : Int), WA 6 1 2 cX10_seen RX10 4 (some .long) (LYC x false false) (LYC x false false) K 15 [some (.ref 0), some (vi x1), some (vi x2), none] [] σ (l_W_seen_15 F n σ x1 x2)
  | 0, _, _, _ => a_none
  | n + 1, σ, x1, x2 => cb_W_seen_15 F _ (cl_W_seen_15 F n) σ x1 x2
set_option maxRecDepth 100000 in
set_option maxHeartbeats 4000000 in
theorem c_W_seen {x : Bool} (F : Nat) (σ : St) : Ct 6 1 2 yX10_seen cX10_seen 4 (some .long) (LYC x false false) (LYC x false false) [.ref 0] σ (f_W_seen F σ) := by
  unfold f_W_seen
  refine Ct_of (d := 6) (kp := 1) (kd := 2) (own := RX10) (nL := 4) (ret := (some .long)) (LY := (LYC x false false)) (LYe := (LYC x false false)) (L := [some (.ref 0), none, none, none]) rfl (by decide +kernel) rfl rfl mf_L_78.2.2.2.1 rfl fun K => ?_
  refine a_aload_n dX10_seen_0 rfl ?_
  refine a_getR (c0 := 79) fl_X10_26 lyC_0 rfl dX10_seen_1 (key := 2) rfl ?_
  refine a_getI fl_X10_172 lyC_79 rfl dX10_seen_4 (key := 5059) rfl ?_
  refine a_bv fun x1_1 ex1_1 => ?_
  refine a_istore_n (y := x1_1) (L' := [some (.ref 0), some (vi x1_1), none, none]) dX10_seen_7 ex1_1 rfl rfl rfl ?_
  refine a_aload_n dX10_seen_8 rfl ?_
  refine a_iload_n dX10_seen_9 rfl ?_
  refine a_callVv (as := [vi x1_1]) mf_X10_175 lyC_0 rfl (c_W_fillCover F _ _) LYsame.rf dX10_seen_10 rfl rfl rfl rfl rfl rfl (Or.inl rfl) fun r2 σ3 => ?_
  refine a_iconst dX10_seen_13 ?_
  refine a_istore_n (L' := [some (.ref 0), some (vi x1_1), some (vi 0), none]) dX10_seen_14 rfl rfl rfl rfl ?_
  exact cl_W_seen_15 F F _ _ _
def b_Scene_noHearerParts_scene0_2 (F : Nat) (self : St → Int → Int → Option (Int × St)) (σ : St) (x1 x2 : Int) : Option (Int × St) := gd (rng x2 ∧ rng (gF σ 5059)) (if (gF σ 5059) ≤ x2 then some (1, σ) else gd (inb x2 10) (gd (inb 0 10) (bv ((gA σ 55 (Int.toNat x2)) - (gA σ 55 (Int.toNat 0))) fun t1 => gd (rng (x1 * t1) ∧ rng (gF σ 1472) ∧ (gF σ 1472) ≠ (0 : Int)) (bv (Int.tmod (x1 * t1) (gF σ 1472)) fun t2 => gd (rng t2) (if t2 = 0 then bv (x2 + 1) fun x2_3 => self σ x1 x2_3 else some (0, σ))))))
def l_Scene_noHearerParts_scene0_2 (F : Nat) : Nat → St → Int → Int → Option (Int × St)
  | 0 => fun _ _ _ => none
  | n + 1 => fun σ x1 x2 => b_Scene_noHearerParts_scene0_2 F (l_Scene_noHearerParts_scene0_2 F n) σ x1 x2
def f_Scene_noHearerParts_scene0 (F : Nat) (σ : St) (x1 : Int) : Option (Int × St) := l_Scene_noHearerParts_scene0_2 F F σ x1 1
set_option maxRecDepth 100000 in
set_option maxHeartbeats 4000000 in
theorem cb_Scene_noHearerParts_scene0_2 {K : KX} {x : Bool} (F : Nat) (self : St → Int → Int → Option (Int × St)) (hself : ∀ σ x1 x2, WA 1 0 1 cX7_noHearerParts RX7 3 (some .boolean) (LYC x false false) (LYC x false false) K 2 [some (.ref 79), some (vi x1), some (vi x2)] [] σ (self σ x1 x2)) (σ : St) (x1 x2 : Int) : WA 1 0 1 cX7_noHearerParts RX7 3 (some .boolean) (LYC x false false) (LYC x false false) K 2 [some (.ref 79), some (vi x1), some (vi x2)] [] σ (b_Scene_noHearerParts_scene0_2 F self σ x1 x2) := by
  unfold b_Scene_noHearerParts_scene0_2
  refine a_iload_n dX7_noHearerParts_2 rfl ?_
  refine a_aload_n dX7_noHearerParts_3 rfl ?_
  refine a_getI fl_X7_48 lyC_79 rfl dX7_noHearerParts_4 (key := 5059) rfl ?_
  refine a_icmp_ge dX7_noHearerParts_7 rfl (fun _ => ?_) (fun _ => ?_)
  · refine a_iconst dX7_noHearerParts_44 ?_
    exact a_zretc (by decide) dX7_noHearerParts_45
  refine a_iload_n dX7_noHearerParts_10 rfl ?_
  refine a_aload_n dX7_noHearerParts_11 rfl ?_
  refine a_getR (c0 := 55) fl_X7_25 lyC_79 rfl dX7_noHearerParts_12 (key := 5060) rfl ?_
  refine a_iload_n dX7_noHearerParts_15 rfl ?_
  refine a_iald lyC_55 rfl dX7_noHearerParts_16 ?_
  refine a_aload_n dX7_noHearerParts_17 rfl ?_
  refine a_getR (c0 := 55) fl_X7_25 lyC_79 rfl dX7_noHearerParts_18 (key := 5060) rfl ?_
  refine a_iconst dX7_noHearerParts_21 ?_
  refine a_iald lyC_55 rfl dX7_noHearerParts_22 ?_
  refine a_isub dX7_noHearerParts_23 ?_
  refine a_bvi fun t1 => ?_
  refine a_imul dX7_noHearerParts_24 ?_
  refine a_aload_n dX7_noHearerParts_25 rfl ?_
  refine a_getR (c0 := 23) fl_X7_12 lyC_79 rfl dX7_noHearerParts_26 (key := 5056) rfl ?_
  refine a_getI fl_X7_73 lyC_23 rfl dX7_noHearerParts_29 (key := 1472) rfl ?_
  refine a_irem dX7_noHearerParts_32 (fun _ => ?_)
  refine a_bvi fun t2 => ?_
  refine a_if_eq dX7_noHearerParts_33 rfl (fun _ => ?_) (fun _ => ?_)
  · refine a_bv fun x2_3 ex2_3 => ?_
    refine a_iinc (y := x2_3) (L' := [some (.ref 79), some (vi x1), some (vi x2_3)]) dX7_noHearerParts_38 rfl ex2_3 rfl rfl rfl ?_
    refine a_goto dX7_noHearerParts_41 rfl ?_
    exact hself _ _ _
  refine a_iconst dX7_noHearerParts_36 ?_
  exact a_zretc (by decide) dX7_noHearerParts_37
set_option maxRecDepth 100000 in
set_option maxHeartbeats 4000000 in
theorem cl_Scene_noHearerParts_scene0_2 {K : KX} {x : Bool} (F : Nat) : ∀ (n : Nat) (σ : St) (x1 x2 : Int), WA 1 0 1 cX7_noHearerParts RX7 3 (some .boolean) (LYC x false false) (LYC x false false) K 2 [some (.ref 79), some (vi x1), some (vi x2)] [] σ (l_Scene_noHearerParts_scene0_2 F n σ x1 x2)
  | 0, _, _, _ => a_none
  | n + 1, σ, x1, x2 => cb_Scene_noHearerParts_scene0_2 F _ (cl_Scene_noHearerParts_scene0_2 F n) σ x1 x2
set_option maxRecDepth 100000 in
set_option maxHeartbeats 4000000 in
theorem c_Scene_noHearerParts_scene0 {x : Bool} (F : Nat) (σ : St) (x1 : Int) : Ct 1 0 1 yX7_noHearerParts cX7_noHearerParts 3 (some .boolean) (LYC x false false) (LYC x false false) [.ref 79, vi x1] σ (f_Scene_noHearerParts_scene0 F σ x1) := by
  unfold f_Scene_noHearerParts_scene0
  refine Ct_of (d := 1) (kp := 0) (kd := 1) (own := RX7) (nL := 3) (ret := (some .boolean)) (LY := (LYC x false false)) (LYe := (LYC x false false)) (L := [some (.ref 79), some (vi x1), none]) rfl (by decide +kernel) rfl rfl mf_X7_105.2.2.2.1 rfl fun K => ?_
  refine a_iconst dX7_noHearerParts_0 ?_
  refine a_istore_n (L' := [some (.ref 79), some (vi x1), some (vi 1)]) dX7_noHearerParts_1 rfl rfl rfl rfl ?_
  exact cl_Scene_noHearerParts_scene0_2 F F _ _ _
def b_Scene_twinsOf_scene0_5 (F : Nat) (self : St → Int → Int → Int → Option (Int × St)) (σ : St) (x1 x2 x4 : Int) : Option (Int × St) := gd (rng x4 ∧ rng (gF σ 1472)) (if (gF σ 1472) ≤ x4 then some (x2, σ) else gd (rng x4 ∧ rng x1) (if x4 = x1 then bv (x4 + 1) fun x4_1 => self σ x1 x2 x4_1 else gd (rng (x4 - x1)) (bv (iabs (x4 - x1)) fun t2 => bnd (f_Scene_noHearerParts_scene0 F σ t2) fun r3 σ4 => gd (rng r3) (if r3 = 0 then bv (x4 + 1) fun x4_5 => self σ4 x1 x2 x4_5 else gd (sh6 x4) (bv (lorI x2 (1 * 2 ^ (Int.toNat x4))) fun t6 => bv (x4 + 1) fun x4_7 => self σ4 x1 t6 x4_7)))))
def l_Scene_twinsOf_scene0_5 (F : Nat) : Nat → St → Int → Int → Int → Option (Int × St)
  | 0 => fun _ _ _ _ => none
  | n + 1 => fun σ x1 x2 x4 => b_Scene_twinsOf_scene0_5 F (l_Scene_twinsOf_scene0_5 F n) σ x1 x2 x4
def f_Scene_twinsOf_scene0 (F : Nat) (σ : St) (x1 : Int) : Option (Int × St) := l_Scene_twinsOf_scene0_5 F F σ x1 0 0
set_option maxRecDepth 100000 in
set_option maxHeartbeats 4000000 in
theorem cb_Scene_twinsOf_scene0_5 {K : KX} {x : Bool} (F : Nat) (self : St → Int → Int → Int → Option (Int × St)) (hself : ∀ σ x1 x2 x4, WA 2 0 2 cX7_twinsOf RX7 5 (some .long) (LYC x false false) (LYC x false false) K 5 [some (.ref 79), some (vi x1), some (vl x2), none, some (vi x4)] [] σ (self σ x1 x2 x4)) (σ : St) (x1 x2 x4 : Int) : WA 2 0 2 cX7_twinsOf RX7 5 (some .long) (LYC x false false) (LYC x false false) K 5 [some (.ref 79), some (vi x1), some (vl x2), none, some (vi x4)] [] σ (b_Scene_twinsOf_scene0_5 F self σ x1 x2 x4) := by
  unfold b_Scene_twinsOf_scene0_5
  refine a_iload dX7_twinsOf_5 rfl ?_
  refine a_aload_n dX7_twinsOf_7 rfl ?_
  refine a_getR (c0 := 23) fl_X7_12 lyC_79 rfl dX7_twinsOf_8 (key := 5056) rfl ?_
  refine a_getI fl_X7_73 lyC_23 rfl dX7_twinsOf_11 (key := 1472) rfl ?_
  refine a_icmp_ge dX7_twinsOf_14 rfl (fun _ => ?_) (fun _ => ?_)
  · refine a_lload_n dX7_twinsOf_50 rfl ?_
    exact a_lret dX7_twinsOf_51
  refine a_iload dX7_twinsOf_17 rfl ?_
  refine a_iload_n dX7_twinsOf_19 rfl ?_
  refine a_icmp_eq dX7_twinsOf_20 rfl (fun _ => ?_) (fun _ => ?_)
  · refine a_bv fun x4_1 ex4_1 => ?_
    refine a_iinc (y := x4_1) (L' := [some (.ref 79), some (vi x1), some (vl x2), none, some (vi x4_1)]) dX7_twinsOf_44 rfl ex4_1 rfl rfl rfl ?_
    refine a_goto dX7_twinsOf_47 rfl ?_
    exact hself _ _ _ _
  refine a_aload_n dX7_twinsOf_23 rfl ?_
  refine a_iload dX7_twinsOf_24 rfl ?_
  refine a_iload_n dX7_twinsOf_26 rfl ?_
  refine a_isub dX7_twinsOf_27 ?_
  refine a_mabs mf_X7_100 rfl rfl dX7_twinsOf_28 ?_
  refine a_bvi fun t2 => ?_
  refine a_callVi (as := [vi t2]) mf_X7_105 lyC_79 rfl (c_Scene_noHearerParts_scene0 F _ _) LYsame.rf dX7_twinsOf_31 rfl rfl rfl rfl rfl rfl (Or.inl rfl) fun r3 σ4 => ?_
  refine a_if_eq dX7_twinsOf_34 rfl (fun _ => ?_) (fun _ => ?_)
  · refine a_bv fun x4_5 ex4_5 => ?_
    refine a_iinc (y := x4_5) (L' := [some (.ref 79), some (vi x1), some (vl x2), none, some (vi x4_5)]) dX7_twinsOf_44 rfl ex4_5 rfl rfl rfl ?_
    refine a_goto dX7_twinsOf_47 rfl ?_
    exact hself _ _ _ _
  refine a_lload_n dX7_twinsOf_37 rfl ?_
  refine a_lconst (v := 1) dX7_twinsOf_38 rfl ?_
  refine a_iload dX7_twinsOf_39 rfl ?_
  refine a_lshl dX7_twinsOf_41 (fun _ => ?_)
  refine a_lor dX7_twinsOf_42 ?_
  refine a_bvl fun t6 => ?_
  refine a_lstore_n (L' := [some (.ref 79), some (vi x1), some (vl t6), none, some (vi x4)]) dX7_twinsOf_43 rfl rfl rfl rfl ?_
  refine a_bv fun x4_7 ex4_7 => ?_
  refine a_iinc (y := x4_7) (L' := [some (.ref 79), some (vi x1), some (vl t6), none, some (vi x4_7)]) dX7_twinsOf_44 rfl ex4_7 rfl rfl rfl ?_
  refine a_goto dX7_twinsOf_47 rfl ?_
  exact hself _ _ _ _
set_option maxRecDepth 100000 in
set_option maxHeartbeats 4000000 in
theorem cl_Scene_twinsOf_scene0_5 {K : KX} {x : Bool} (F : Nat) : ∀ (n : Nat) (σ : St) (x1 x2 x4 : Int), WA 2 0 2 cX7_twinsOf RX7 5 (some .long) (LYC x false false) (LYC x false false) K 5 [some (.ref 79), some (vi x1), some (vl x2), none, some (vi x4)] [] σ (l_Scene_twinsOf_scene0_5 F n σ x1 x2 x4)
  | 0, _, _, _, _ => a_none
  | n + 1, σ, x1, x2, x4 => cb_Scene_twinsOf_scene0_5 F _ (cl_Scene_twinsOf_scene0_5 F n) σ x1 x2 x4
set_option maxRecDepth 100000 in
set_option maxHeartbeats 4000000 in
theorem c_Scene_twinsOf_scene0 {x : Bool} (F : Nat) (σ : St) (x1 : Int) : Ct 2 0 2 yX7_twinsOf cX7_twinsOf 5 (some .long) (LYC x false false) (LYC x false false) [.ref 79, vi x1] σ (f_Scene_twinsOf_scene0 F σ x1) := by
  unfold f_Scene_twinsOf_scene0
  refine Ct_of (d := 2) (kp := 0) (kd := 2) (own := RX7) (nL := 5) (ret := (some .long)) (LY := (LYC x false false)) (LYe := (LYC x false false)) (L := [some (.ref 79), some (vi x1), none, none, none]) rfl (by decide +kernel) rfl rfl mf_X10_199.2.2.2.1 rfl fun K => ?_
  refine a_lconst (v := 0) dX7_twinsOf_0 rfl ?_
  refine a_lstore_n (L' := [some (.ref 79), some (vi x1), some (vl 0), none, none]) dX7_twinsOf_1 rfl rfl rfl rfl ?_
  refine a_iconst dX7_twinsOf_2 ?_
  refine a_istore (L' := [some (.ref 79), some (vi x1), some (vl 0), none, some (vi 0)]) dX7_twinsOf_3 rfl rfl rfl rfl ?_
  exact cl_Scene_twinsOf_scene0_5 F F _ _ _ _
def f_W_twins (F : Nat) (σ : St) (x1 : Int) : Option (Int × St) := bnd (f_Lattice_has_lattice0 F σ x1) fun r1 σ2 => gd (rng r1) (if r1 = 0 then some ((-1), σ2) else bnd (f_Scene_twinsOf_scene0 F σ2 x1) fun r3 σ4 => some (r3, σ4))
set_option maxRecDepth 100000 in
set_option maxHeartbeats 4000000 in
theorem c_W_twins {x : Bool} (F : Nat) (σ : St) (x1 : Int) : Ct 3 0 2 yX10_twins cX10_twins 2 (some .long) (LYC x false false) (LYC x false false) [.ref 0, vi x1] σ (f_W_twins F σ x1) := by
  unfold f_W_twins
  refine Ct_of (d := 3) (kp := 0) (kd := 2) (own := RX10) (nL := 2) (ret := (some .long)) (LY := (LYC x false false)) (LYe := (LYC x false false)) (L := [some (.ref 0), some (vi x1)]) rfl (by decide +kernel) rfl rfl mf_L_83.2.2.2.1 rfl fun K => ?_
  refine a_aload_n dX10_twins_0 rfl ?_
  refine a_getR (c0 := 79) fl_X10_26 lyC_0 rfl dX10_twins_1 (key := 2) rfl ?_
  refine a_getR (c0 := 23) fl_X10_153 lyC_79 rfl dX10_twins_4 (key := 5056) rfl ?_
  refine a_iload_n dX10_twins_7 rfl ?_
  refine a_callVi (as := [vi x1]) mf_X10_157 lyC_23 rfl (c_Lattice_has_lattice0 F _ _) LYsame.rf dX10_twins_8 rfl rfl rfl rfl rfl rfl (Or.inl rfl) fun r1 σ2 => ?_
  refine a_if_eq dX10_twins_11 rfl (fun _ => ?_) (fun _ => ?_)
  · refine a_ldc2 kc_X10_203 rfl dX10_twins_25 ?_
    exact a_lret dX10_twins_28
  refine a_aload_n dX10_twins_14 rfl ?_
  refine a_getR (c0 := 79) fl_X10_26 lyC_0 rfl dX10_twins_15 (key := 2) rfl ?_
  refine a_iload_n dX10_twins_18 rfl ?_
  refine a_callVl (as := [vi x1]) mf_X10_199 lyC_79 rfl (c_Scene_twinsOf_scene0 F _ _) LYsame.rf dX10_twins_19 rfl rfl rfl rfl rfl rfl (Or.inl rfl) fun r3 σ4 => ?_
  refine a_goto dX10_twins_22 rfl ?_
  exact a_lret dX10_twins_28
def b_Scene_standsEven_scene0_2 (F : Nat) (self : St → Int → Option (Int × St)) (σ : St) (x1 : Int) : Option (Int × St) := gd (rng x1 ∧ rng (gF σ 5059)) (if (gF σ 5059) ≤ x1 then some (1, σ) else gd (inb x1 10) (gd (inb (x1 - 1) 10) (bv ((gA σ 55 (Int.toNat (x1 - 1))) + 1) fun t1 => gd (rng (gA σ 55 (Int.toNat x1)) ∧ rng t1) (if (gA σ 55 (Int.toNat x1)) = t1 then bv (x1 + 1) fun x1_2 => self σ x1_2 else some (0, σ)))))
def l_Scene_standsEven_scene0_2 (F : Nat) : Nat → St → Int → Option (Int × St)
  | 0 => fun _ _ => none
  | n + 1 => fun σ x1 => b_Scene_standsEven_scene0_2 F (l_Scene_standsEven_scene0_2 F n) σ x1
def f_Scene_standsEven_scene0 (F : Nat) (σ : St) : Option (Int × St) := l_Scene_standsEven_scene0_2 F F σ 1
set_option maxRecDepth 100000 in
set_option maxHeartbeats 4000000 in
theorem cb_Scene_standsEven_scene0_2 {K : KX} {x : Bool} (F : Nat) (self : St → Int → Option (Int × St)) (hself : ∀ σ x1, WA 1 0 1 cX7_standsEven RX7 2 (some .boolean) (LYC x false false) (LYC x false false) K 2 [some (.ref 79), some (vi x1)] [] σ (self σ x1)) (σ : St) (x1 : Int) : WA 1 0 1 cX7_standsEven RX7 2 (some .boolean) (LYC x false false) (LYC x false false) K 2 [some (.ref 79), some (vi x1)] [] σ (b_Scene_standsEven_scene0_2 F self σ x1) := by
  unfold b_Scene_standsEven_scene0_2
  refine a_iload_n dX7_standsEven_2 rfl ?_
  refine a_aload_n dX7_standsEven_3 rfl ?_
  refine a_getI fl_X7_48 lyC_79 rfl dX7_standsEven_4 (key := 5059) rfl ?_
  refine a_icmp_ge dX7_standsEven_7 rfl (fun _ => ?_) (fun _ => ?_)
  · refine a_iconst dX7_standsEven_37 ?_
    exact a_zretc (by decide) dX7_standsEven_38
  refine a_aload_n dX7_standsEven_10 rfl ?_
  refine a_getR (c0 := 55) fl_X7_25 lyC_79 rfl dX7_standsEven_11 (key := 5060) rfl ?_
  refine a_iload_n dX7_standsEven_14 rfl ?_
  refine a_iald lyC_55 rfl dX7_standsEven_15 ?_
  refine a_aload_n dX7_standsEven_16 rfl ?_
  refine a_getR (c0 := 55) fl_X7_25 lyC_79 rfl dX7_standsEven_17 (key := 5060) rfl ?_
  refine a_iload_n dX7_standsEven_20 rfl ?_
  refine a_iconst dX7_standsEven_21 ?_
  refine a_isub dX7_standsEven_22 ?_
  refine a_iald lyC_55 rfl dX7_standsEven_23 ?_
  refine a_iconst dX7_standsEven_24 ?_
  refine a_iadd dX7_standsEven_25 ?_
  refine a_bvi fun t1 => ?_
  refine a_icmp_eq dX7_standsEven_26 rfl (fun _ => ?_) (fun _ => ?_)
  · refine a_bv fun x1_2 ex1_2 => ?_
    refine a_iinc (y := x1_2) (L' := [some (.ref 79), some (vi x1_2)]) dX7_standsEven_31 rfl ex1_2 rfl rfl rfl ?_
    refine a_goto dX7_standsEven_34 rfl ?_
    exact hself _ _
  refine a_iconst dX7_standsEven_29 ?_
  exact a_zretc (by decide) dX7_standsEven_30
set_option maxRecDepth 100000 in
set_option maxHeartbeats 4000000 in
theorem cl_Scene_standsEven_scene0_2 {K : KX} {x : Bool} (F : Nat) : ∀ (n : Nat) (σ : St) (x1 : Int), WA 1 0 1 cX7_standsEven RX7 2 (some .boolean) (LYC x false false) (LYC x false false) K 2 [some (.ref 79), some (vi x1)] [] σ (l_Scene_standsEven_scene0_2 F n σ x1)
  | 0, _, _ => a_none
  | n + 1, σ, x1 => cb_Scene_standsEven_scene0_2 F _ (cl_Scene_standsEven_scene0_2 F n) σ x1
set_option maxRecDepth 100000 in
set_option maxHeartbeats 4000000 in
theorem c_Scene_standsEven_scene0 {x : Bool} (F : Nat) (σ : St) : Ct 1 0 1 yX7_standsEven cX7_standsEven 2 (some .boolean) (LYC x false false) (LYC x false false) [.ref 79] σ (f_Scene_standsEven_scene0 F σ) := by
  unfold f_Scene_standsEven_scene0
  refine Ct_of (d := 1) (kp := 0) (kd := 1) (own := RX7) (nL := 2) (ret := (some .boolean)) (LY := (LYC x false false)) (LYe := (LYC x false false)) (L := [some (.ref 79), none]) rfl (by decide +kernel) rfl rfl mf_X10_218.2.2.2.1 rfl fun K => ?_
  refine a_iconst dX7_standsEven_0 ?_
  refine a_istore_n (L' := [some (.ref 79), some (vi 1)]) dX7_standsEven_1 rfl rfl rfl rfl ?_
  exact cl_Scene_standsEven_scene0_2 F F _ _
def f_W_canSmooth (F : Nat) (σ : St) (x1 : Int) : Option (Int × St) := gd (rng x1 ∧ rng 1) (if x1 < 1 then some (0, σ) else gd (rng x1 ∧ rng (gF σ 5059)) (if (gF σ 5059) < x1 then some (0, σ) else bnd (f_Scene_standsEven_scene0 F σ) fun r1 σ2 => gd (rng r1) (if r1 = 0 then some (0, σ2) else some (1, σ2))))
set_option maxRecDepth 100000 in
set_option maxHeartbeats 4000000 in
theorem c_W_canSmooth {x : Bool} (F : Nat) (σ : St) (x1 : Int) : Ct 2 0 1 yX10_canSmooth cX10_canSmooth 2 (some .boolean) (LYC x false false) (LYC x false false) [.ref 0, vi x1] σ (f_W_canSmooth F σ x1) := by
  unfold f_W_canSmooth
  refine Ct_of (d := 2) (kp := 0) (kd := 1) (own := RX10) (nL := 2) (ret := (some .boolean)) (LY := (LYC x false false)) (LYe := (LYC x false false)) (L := [some (.ref 0), some (vi x1)]) rfl (by decide +kernel) rfl rfl mf_X10_205.2.2.2.1 rfl fun K => ?_
  refine a_iload_n dX10_canSmooth_0 rfl ?_
  refine a_iconst dX10_canSmooth_1 ?_
  refine a_icmp_lt dX10_canSmooth_2 rfl (fun _ => ?_) (fun _ => ?_)
  · refine a_iconst dX10_canSmooth_30 ?_
    exact a_zretc (by decide) dX10_canSmooth_31
  refine a_iload_n dX10_canSmooth_5 rfl ?_
  refine a_aload_n dX10_canSmooth_6 rfl ?_
  refine a_getR (c0 := 79) fl_X10_26 lyC_0 rfl dX10_canSmooth_7 (key := 2) rfl ?_
  refine a_getI fl_X10_172 lyC_79 rfl dX10_canSmooth_10 (key := 5059) rfl ?_
  refine a_icmp_gt dX10_canSmooth_13 rfl (fun _ => ?_) (fun _ => ?_)
  · refine a_iconst dX10_canSmooth_30 ?_
    exact a_zretc (by decide) dX10_canSmooth_31
  refine a_aload_n dX10_canSmooth_16 rfl ?_
  refine a_getR (c0 := 79) fl_X10_26 lyC_0 rfl dX10_canSmooth_17 (key := 2) rfl ?_
  refine a_callVi (as := []) mf_X10_218 lyC_79 rfl (c_Scene_standsEven_scene0 F _) LYsame.rf dX10_canSmooth_20 rfl rfl rfl rfl rfl rfl (Or.inl rfl) fun r1 σ2 => ?_
  refine a_if_eq dX10_canSmooth_23 rfl (fun _ => ?_) (fun _ => ?_)
  · refine a_iconst dX10_canSmooth_30 ?_
    exact a_zretc (by decide) dX10_canSmooth_31
  refine a_iconst dX10_canSmooth_26 ?_
  refine a_goto dX10_canSmooth_27 rfl ?_
  exact a_zretc (by decide) dX10_canSmooth_31
def f_W_smoothed (F : Nat) (σ : St) (x1 : Int) : Option (Int × St) := bnd (f_W_canSmooth F σ x1) fun r1 σ2 => gd (rng r1) (if r1 = 0 then some ((-1), σ2) else bnd (f_W_fillCover F σ2 x1) fun r3 σ4 => bnd (f_Rows_reduce F σ4 x1 x1 x1 (gF σ4 1473)) fun r5 σ6 => some (r5, σ6))
set_option maxRecDepth 100000 in
set_option maxHeartbeats 4000000 in
theorem c_W_smoothed {x : Bool} (F : Nat) (σ : St) (x1 : Int) : Ct 6 1 1 yX10_smoothed cX10_smoothed 2 (some .int) (LYC x false false) (LYC x false false) [.ref 0, vi x1] σ (f_W_smoothed F σ x1) := by
  unfold f_W_smoothed
  refine Ct_of (d := 6) (kp := 1) (kd := 1) (own := RX10) (nL := 2) (ret := (some .int)) (LY := (LYC x false false)) (LYe := (LYC x false false)) (L := [some (.ref 0), some (vi x1)]) rfl (by decide +kernel) rfl rfl mf_L_88.2.2.2.1 rfl fun K => ?_
  refine a_aload_n dX10_smoothed_0 rfl ?_
  refine a_iload_n dX10_smoothed_1 rfl ?_
  refine a_callVi (as := [vi x1]) mf_X10_205 lyC_0 rfl (c_W_canSmooth F _ _) LYsame.rf dX10_smoothed_2 rfl rfl rfl rfl rfl rfl (Or.inl rfl) fun r1 σ2 => ?_
  refine a_if_ne dX10_smoothed_5 rfl (fun _ => ?_) (fun _ => ?_)
  · refine a_aload_n dX10_smoothed_10 rfl ?_
    refine a_iload_n dX10_smoothed_11 rfl ?_
    refine a_callVv (as := [vi x1]) mf_X10_175 lyC_0 rfl (c_W_fillCover F _ _) LYsame.rf dX10_smoothed_12 rfl rfl rfl rfl rfl rfl (Or.inl rfl) fun r3 σ4 => ?_
    refine a_aload_n dX10_smoothed_15 rfl ?_
    refine a_getR (c0 := 85) fl_X10_44 lyC_0 rfl dX10_smoothed_16 (key := 6) rfl ?_
    refine a_iload_n dX10_smoothed_19 rfl ?_
    refine a_iload_n dX10_smoothed_20 rfl ?_
    refine a_iload_n dX10_smoothed_21 rfl ?_
    refine a_aload_n dX10_smoothed_22 rfl ?_
    refine a_getR (c0 := 79) fl_X10_26 lyC_0 rfl dX10_smoothed_23 (key := 2) rfl ?_
    refine a_getR (c0 := 23) fl_X10_153 lyC_79 rfl dX10_smoothed_26 (key := 5056) rfl ?_
    refine a_getI fl_X10_178 lyC_23 rfl dX10_smoothed_29 (key := 1473) rfl ?_
    refine a_callVi (as := [vi x1, vi x1, vi x1, vi (gF σ4 1473)]) mf_X10_181 lyC_85 rfl (c_Rows_reduce F _ _ _ _ _) LYsame.rf dX10_smoothed_32 rfl rfl rfl rfl rfl rfl (Or.inr rfl) fun r5 σ6 => ?_
    exact a_iret dX10_smoothed_35
  refine a_iconst dX10_smoothed_8 ?_
  exact a_iret dX10_smoothed_9
def b_W_smoothSeen_26 (F : Nat) (k19 : St → Int → Int → Option (Int × St)) (self : St → Int → Int → Int → Option (Int × St)) (σ : St) (x1 x2 x3 : Int) : Option (Int × St) := gd (rng x3 ∧ rng (gF σ 1472)) (if (gF σ 1472) ≤ x3 then bv (x2 + 1) fun x2_7 => k19 σ x1 x2_7 else gd (inb x2 46) (bnd (f_Lattice_waveAt_lattice0 F σ x3 x2) fun r9 σ10 => gd (inb (x1 + x3) 70) (bs (sA σ10 (103 + (Int.toNat x2)) (Int.toNat (x1 + x3)) r9) fun σ11 => bv (x3 + 1) fun x3_12 => self σ11 x1 x2 x3_12)))
def l_W_smoothSeen_26 (F : Nat) (k19 : St → Int → Int → Option (Int × St)) : Nat → St → Int → Int → Int → Option (Int × St)
  | 0 => fun _ _ _ _ => none
  | n + 1 => fun σ x1 x2 x3 => b_W_smoothSeen_26 F k19 (l_W_smoothSeen_26 F k19 n) σ x1 x2 x3
def b_W_smoothSeen_19 (F : Nat) (self : St → Int → Int → Option (Int × St)) (σ : St) (x1 x2 : Int) : Option (Int × St) := gd (rng x2 ∧ rng x1) (if x1 ≤ x2 then bnd (f_Rows_columnsMade_lattice0 F σ x1) fun r5 σ6 => some (r5, σ6) else l_W_smoothSeen_26 F self F σ x1 x2 0)
def l_W_smoothSeen_19 (F : Nat) : Nat → St → Int → Int → Option (Int × St)
  | 0 => fun _ _ _ => none
  | n + 1 => fun σ x1 x2 => b_W_smoothSeen_19 F (l_W_smoothSeen_19 F n) σ x1 x2
def f_W_smoothSeen (F : Nat) (σ : St) (x1 : Int) : Option (Int × St) := bnd (f_W_canSmooth F σ x1) fun r1 σ2 => gd (rng r1) (if r1 = 0 then some ((-1), σ2) else bnd (f_W_fillCover F σ2 x1) fun r3 σ4 => l_W_smoothSeen_19 F F σ4 x1 0)
set_option maxRecDepth 100000 in
set_option maxHeartbeats 4000000 in
theorem cb_W_smoothSeen_26 {K : KX} {x : Bool} (F : Nat) (k19 : St → Int → Int → Option (Int × St)) (h19 : ∀ σ x1 x2, WA 6 1 2 cX10_smoothSeen RX10 4 (some .long) (LYC x false false) (LYC x false false) K 19 [some (.ref 0), some (vi x1), some (vi x2), none] [] σ (k19 σ x1 x2)) (self : St → Int → Int → Int → Option (Int × St)) (hself : ∀ σ x1 x2 x3, WA 6 1 2 cX10_smoothSeen RX10 4 (some .long) (LYC x false false) (LYC x false false) K 26 [some (.ref 0), some (vi x1), some (vi x2), some (vi x3)] [] σ (self σ x1 x2 x3)) (σ : St) (x1 x2 x3 : Int) : WA 6 1 2 cX10_smoothSeen RX10 4 (some .long) (LYC x false false) (LYC x false false) K 26 [some (.ref 0), some (vi x1), some (vi x2), some (vi x3)] [] σ (b_W_smoothSeen_26 F k19 self σ x1 x2 x3) := by
  unfold b_W_smoothSeen_26
  refine a_iload_n dX10_smoothSeen_26 rfl ?_
  refine a_aload_n dX10_smoothSeen_27 rfl ?_
  refine a_getR (c0 := 79) fl_X10_26 lyC_0 rfl dX10_smoothSeen_28 (key := 2) rfl ?_
  refine a_getR (c0 := 23) fl_X10_153 lyC_79 rfl dX10_smoothSeen_31 (key := 5056) rfl ?_
  refine a_getI fl_X10_185 lyC_23 rfl dX10_smoothSeen_34 (key := 1472) rfl ?_
  refine a_icmp_ge dX10_smoothSeen_37 rfl (fun _ => ?_) (fun _ => ?_)
  · refine a_bv fun x2_7 ex2_7 => ?_
    refine a_iinc (y := x2_7) (L' := [some (.ref 0), some (vi x1), some (vi x2_7), some (vi x3)]) dX10_smoothSeen_71 rfl ex2_7 rfl rfl rfl ?_
    refine a_goto dX10_smoothSeen_74 rfl ?_
    exact a_L (lsub_get (A := [some (.ref 0), some (vi x1), some (vi x2_7), none]) ⟨rfl, ⟨rfl, ⟨rfl, trivial⟩⟩⟩) (h19 _ _ _)
  refine a_aload_n dX10_smoothSeen_40 rfl ?_
  refine a_getR (c0 := 85) fl_X10_44 lyC_0 rfl dX10_smoothSeen_41 (key := 6) rfl ?_
  refine a_getR (c0 := 86) fl_X10_188 lyC_85 rfl dX10_smoothSeen_44 (key := 5440) rfl ?_
  refine a_iload_n dX10_smoothSeen_47 rfl ?_
  refine a_aaldI lyC_86 rfl dX10_smoothSeen_48 fun hi8 => ?_
  refine a_iload_n dX10_smoothSeen_49 rfl ?_
  refine a_iload_n dX10_smoothSeen_50 rfl ?_
  refine a_iadd dX10_smoothSeen_51 ?_
  refine a_aload_n dX10_smoothSeen_52 rfl ?_
  refine a_getR (c0 := 79) fl_X10_26 lyC_0 rfl dX10_smoothSeen_53 (key := 2) rfl ?_
  refine a_getR (c0 := 23) fl_X10_153 lyC_79 rfl dX10_smoothSeen_56 (key := 5056) rfl ?_
  refine a_iload_n dX10_smoothSeen_59 rfl ?_
  refine a_iload_n dX10_smoothSeen_60 rfl ?_
  refine a_callVi (as := [vi x3, vi x2]) mf_X10_162 lyC_23 rfl (c_Lattice_waveAt_lattice0 F _ _ _) LYsame.rf dX10_smoothSeen_61 rfl rfl rfl rfl rfl rfl (Or.inl rfl) fun r9 σ10 => ?_
  refine a_iast (lyC_r _ (ix_lt hi8)) rfl dX10_smoothSeen_64 fun σ11 => ?_
  refine a_bv fun x3_12 ex3_12 => ?_
  refine a_iinc (y := x3_12) (L' := [some (.ref 0), some (vi x1), some (vi x2), some (vi x3_12)]) dX10_smoothSeen_65 rfl ex3_12 rfl rfl rfl ?_
  refine a_goto dX10_smoothSeen_68 rfl ?_
  exact hself _ _ _ _
set_option maxRecDepth 100000 in
set_option maxHeartbeats 4000000 in
theorem cl_W_smoothSeen_26 {K : KX} {x : Bool} (F : Nat) (k19 : St → Int → Int → Option (Int × St)) (h19 : ∀ σ x1 x2, WA 6 1 2 cX10_smoothSeen RX10 4 (some .long) (LYC x false false) (LYC x false false) K 19 [some (.ref 0), some (vi x1), some (vi x2), none] [] σ (k19 σ x1 x2)) : ∀ (n : Nat) (σ : St) (x1 x2 x3 : Int), WA 6 1 2 cX10_smoothSeen RX10 4 (some .long) (LYC x false false) (LYC x false false) K 26 [some (.ref 0), some (vi x1), some (vi x2), some (vi x3)] [] σ (l_W_smoothSeen_26 F k19 n σ x1 x2 x3)
  | 0, _, _, _, _ => a_none
  | n + 1, σ, x1, x2, x3 => cb_W_smoothSeen_26 F k19 h19 _ (cl_W_smoothSeen_26 F k19 h19 n) σ x1 x2 x3
set_option maxRecDepth 100000 in
set_option maxHeartbeats 4000000 in
theorem cb_W_smoothSeen_19 {K : KX} {x : Bool} (F : Nat) (self : St → Int → Int → Option (Int × St)) (hself : ∀ σ x1 x2, WA 6 1 2 cX10_smoothSeen RX10 4 (some .long) (LYC x false false) (LYC x false false) K 19 [some (.ref 0), some (vi x1), some (vi x2), none] [] σ (self σ x1 x2)) (σ : St) (x1 x2 : Int) : WA 6 1 2 cX10_smoothSeen RX10 4 (some .long) (LYC x false false) (LYC x false false) K 19 [some (.ref 0), some (vi x1), some (vi x2), none] [] σ (b_W_smoothSeen_19 F self σ x1 x2) := by
  unfold b_W_smoothSeen_19
  refine a_iload_n dX10_smoothSeen_19 rfl ?_
  refine a_iload_n dX10_smoothSeen_20 rfl ?_
  refine a_icmp_ge dX10_smoothSeen_21 rfl (fun _ => ?_) (fun _ => ?_)
  · refine a_aload_n dX10_smoothSeen_77 rfl ?_
    refine a_getR (c0 := 85) fl_X10_44 lyC_0 rfl dX10_smoothSeen_78 (key := 6) rfl ?_
    refine a_iload_n dX10_smoothSeen_81 rfl ?_
    refine a_aload_n dX10_smoothSeen_82 rfl ?_
    refine a_getR (c0 := 79) fl_X10_26 lyC_0 rfl dX10_smoothSeen_83 (key := 2) rfl ?_
    refine a_getR (c0 := 23) fl_X10_153 lyC_79 rfl dX10_smoothSeen_86 (key := 5056) rfl ?_
    refine a_callVl (as := [vi x1, .ref 23]) mf_X10_195 lyC_85 rfl (c_Rows_columnsMade_lattice0 F _ _) LYsame.rf dX10_smoothSeen_89 rfl rfl rfl rfl rfl rfl (Or.inr rfl) fun r5 σ6 => ?_
    exact a_lret dX10_smoothSeen_92
  refine a_iconst dX10_smoothSeen_24 ?_
  refine a_istore_n (L' := [some (.ref 0), some (vi x1), some (vi x2), some (vi 0)]) dX10_smoothSeen_25 rfl rfl rfl rfl ?_
  exact cl_W_smoothSeen_26 F _ hself F _ _ _ _
set_option maxRecDepth 100000 in
set_option maxHeartbeats 4000000 in
theorem cl_W_smoothSeen_19 {K : KX} {x : Bool} (F : Nat) : ∀ (n : Nat) (σ : St) (x1 x2 : Int), WA 6 1 2 cX10_smoothSeen RX10 4 (some .long) (LYC x false false) (LYC x false false) K 19 [some (.ref 0), some (vi x1), some (vi x2), none] [] σ (l_W_smoothSeen_19 F n σ x1 x2)
  | 0, _, _, _ => a_none
  | n + 1, σ, x1, x2 => cb_W_smoothSeen_19 F _ (cl_W_smoothSeen_19 F n) σ x1 x2
set_option maxRecDepth 100000 in
set_option maxHeartbeats 4000000 in
theorem c_W_smoothSeen {x : Bool} (F : Nat) (σ : St) (x1 : Int) : Ct 6 1 2 yX10_smoothSeen cX10_smoothSeen 4 (some .long) (LYC x false false) (LYC x false false) [.ref 0, vi x1] σ (f_W_smoothSeen F σ x1) := by
  unfold f_W_smoothSeen
  refine Ct_of (d := 6) (kp := 1) (kd := 2) (own := RX10) (nL := 4) (ret := (some .long)) (LY := (LYC x false false)) (LYe := (LYC x false false)) (L := [some (.ref 0), some (vi x1), none, none]) rfl (by decide +kernel) rfl rfl mf_L_92.2.2.2.1 rfl fun K => ?_
  refine a_aload_n dX10_smoothSeen_0 rfl ?_
  refine a_iload_n dX10_smoothSeen_1 rfl ?_
  refine a_callVi (as := [vi x1]) mf_X10_205 lyC_0 rfl (c_W_canSmooth F _ _) LYsame.rf dX10_smoothSeen_2 rfl rfl rfl rfl rfl rfl (Or.inl rfl) fun r1 σ2 => ?_
  refine a_if_ne dX10_smoothSeen_5 rfl (fun _ => ?_) (fun _ => ?_)
  · refine a_aload_n dX10_smoothSeen_12 rfl ?_
    refine a_iload_n dX10_smoothSeen_13 rfl ?_
    refine a_callVv (as := [vi x1]) mf_X10_175 lyC_0 rfl (c_W_fillCover F _ _) LYsame.rf dX10_smoothSeen_14 rfl rfl rfl rfl rfl rfl (Or.inl rfl) fun r3 σ4 => ?_
    refine a_iconst dX10_smoothSeen_17 ?_
    refine a_istore_n (L' := [some (.ref 0), some (vi x1), some (vi 0), none]) dX10_smoothSeen_18 rfl rfl rfl rfl ?_
    exact cl_W_smoothSeen_19 F F _ _ _
  refine a_ldc2 kc_X10_203 rfl dX10_smoothSeen_8 ?_
  exact a_lret dX10_smoothSeen_11
def b_Scene_partner_scene0_2 (F : Nat) (self : St → Int → Int → Int → Option (Int × St)) (σ : St) (x1 x2 x3 : Int) : Option (Int × St) := gd (rng x3 ∧ rng (gF σ 5059)) (if (gF σ 5059) ≤ x3 then some ((-1), σ) else gd (inb x1 10) (gd (inb x3 10) (bv ((gA σ 55 (Int.toNat x1)) - (gA σ 55 (Int.toNat x3))) fun t1 => gd (rng t1 ∧ rng x2) (if t1 = x2 then some (x3, σ) else bv (x3 + 1) fun x3_2 => self σ x1 x2 x3_2))))
def l_Scene_partner_scene0_2 (F : Nat) : Nat → St → Int → Int → Int → Option (Int × St)
  | 0 => fun _ _ _ _ => none
  | n + 1 => fun σ x1 x2 x3 => b_Scene_partner_scene0_2 F (l_Scene_partner_scene0_2 F n) σ x1 x2 x3
def f_Scene_partner_scene0 (F : Nat) (σ : St) (x1 x2 : Int) : Option (Int × St) := l_Scene_partner_scene0_2 F F σ x1 x2 0
set_option maxRecDepth 100000 in
set_option maxHeartbeats 4000000 in
theorem cb_Scene_partner_scene0_2 {K : KX} {x : Bool} (F : Nat) (self : St → Int → Int → Int → Option (Int × St)) (hself : ∀ σ x1 x2 x3, WA 1 0 1 cX7_partner RX7 4 (some .int) (LYC x false false) (LYC x false false) K 2 [some (.ref 79), some (vi x1), some (vi x2), some (vi x3)] [] σ (self σ x1 x2 x3)) (σ : St) (x1 x2 x3 : Int) : WA 1 0 1 cX7_partner RX7 4 (some .int) (LYC x false false) (LYC x false false) K 2 [some (.ref 79), some (vi x1), some (vi x2), some (vi x3)] [] σ (b_Scene_partner_scene0_2 F self σ x1 x2 x3) := by
  unfold b_Scene_partner_scene0_2
  refine a_iload_n dX7_partner_2 rfl ?_
  refine a_aload_n dX7_partner_3 rfl ?_
  refine a_getI fl_X7_48 lyC_79 rfl dX7_partner_4 (key := 5059) rfl ?_
  refine a_icmp_ge dX7_partner_7 rfl (fun _ => ?_) (fun _ => ?_)
  · refine a_iconst dX7_partner_35 ?_
    exact a_iret dX7_partner_36
  refine a_aload_n dX7_partner_10 rfl ?_
  refine a_getR (c0 := 55) fl_X7_25 lyC_79 rfl dX7_partner_11 (key := 5060) rfl ?_
  refine a_iload_n dX7_partner_14 rfl ?_
  refine a_iald lyC_55 rfl dX7_partner_15 ?_
  refine a_aload_n dX7_partner_16 rfl ?_
  refine a_getR (c0 := 55) fl_X7_25 lyC_79 rfl dX7_partner_17 (key := 5060) rfl ?_
  refine a_iload_n dX7_partner_20 rfl ?_
  refine a_iald lyC_55 rfl dX7_partner_21 ?_
  refine a_isub dX7_partner_22 ?_
  refine a_bvi fun t1 => ?_
  refine a_iload_n dX7_partner_23 rfl ?_
  refine a_icmp_ne dX7_partner_24 rfl (fun _ => ?_) (fun _ => ?_)
  · refine a_bv fun x3_2 ex3_2 => ?_
    refine a_iinc (y := x3_2) (L' := [some (.ref 79), some (vi x1), some (vi x2), some (vi x3_2)]) dX7_partner_29 rfl ex3_2 rfl rfl rfl ?_
    refine a_goto dX7_partner_32 rfl ?_
    exact hself _ _ _ _
  refine a_iload_n dX7_partner_27 rfl ?_
  exact a_iret dX7_partner_28
set_option maxRecDepth 100000 in
set_option maxHeartbeats 4000000 in
theorem cl_Scene_partner_scene0_2 {K : KX} {x : Bool} (F : Nat) : ∀ (n : Nat) (σ : St) (x1 x2 x3 : Int), WA 1 0 1 cX7_partner RX7 4 (some .int) (LYC x false false) (LYC x false false) K 2 [some (.ref 79), some (vi x1), some (vi x2), some (vi x3)] [] σ (l_Scene_partner_scene0_2 F n σ x1 x2 x3)
  | 0, _, _, _, _ => a_none
  | n + 1, σ, x1, x2, x3 => cb_Scene_partner_scene0_2 F _ (cl_Scene_partner_scene0_2 F n) σ x1 x2 x3
set_option maxRecDepth 100000 in
set_option maxHeartbeats 4000000 in
theorem c_Scene_partner_scene0 {x : Bool} (F : Nat) (σ : St) (x1 x2 : Int) : Ct 1 0 1 yX7_partner cX7_partner 4 (some .int) (LYC x false false) (LYC x false false) [.ref 79, vi x1, vi x2] σ (f_Scene_partner_scene0 F σ x1 x2) := by
  unfold f_Scene_partner_scene0
  refine Ct_of (d := 1) (kp := 0) (kd := 1) (own := RX7) (nL := 4) (ret := (some .int)) (LY := (LYC x false false)) (LYe := (LYC x false false)) (L := [some (.ref 79), some (vi x1), some (vi x2), none]) rfl (by decide +kernel) rfl rfl mf_X7_118.2.2.2.1 rfl fun K => ?_
  refine a_iconst dX7_partner_0 ?_
  refine a_istore_n (L' := [some (.ref 79), some (vi x1), some (vi x2), some (vi 0)]) dX7_partner_1 rfl rfl rfl rfl ?_
  exact cl_Scene_partner_scene0_2 F F _ _ _ _
def b_Scene_pairsApart_scene0_4 (F : Nat) (self : St → Int → Int → Int → Option (Int × St)) (σ : St) (x1 x2 x3 : Int) : Option (Int × St) := gd (rng x3 ∧ rng (gF σ 5059)) (if (gF σ 5059) ≤ x3 then some (x2, σ) else bnd (f_Scene_partner_scene0 F σ x3 x1) fun r1 σ2 => gd (rng r1 ∧ rng (-1)) (if r1 = (-1) then bv (x3 + 1) fun x3_3 => self σ2 x1 x2 x3_3 else bv (x2 + 1) fun x2_4 => bv (x3 + 1) fun x3_5 => self σ2 x1 x2_4 x3_5))
def l_Scene_pairsApart_scene0_4 (F : Nat) : Nat → St → Int → Int → Int → Option (Int × St)
  | 0 => fun _ _ _ _ => none
  | n + 1 => fun σ x1 x2 x3 => b_Scene_pairsApart_scene0_4 F (l_Scene_pairsApart_scene0_4 F n) σ x1 x2 x3
def f_Scene_pairsApart_scene0 (F : Nat) (σ : St) (x1 : Int) : Option (Int × St) := l_Scene_pairsApart_scene0_4 F F σ x1 0 0
set_option maxRecDepth 100000 in
set_option maxHeartbeats 4000000 in
theorem cb_Scene_pairsApart_scene0_4 {K : KX} {x : Bool} (F : Nat) (self : St → Int → Int → Int → Option (Int × St)) (hself : ∀ σ x1 x2 x3, WA 2 0 1 cX7_pairsApart RX7 4 (some .int) (LYC x false false) (LYC x false false) K 4 [some (.ref 79), some (vi x1), some (vi x2), some (vi x3)] [] σ (self σ x1 x2 x3)) (σ : St) (x1 x2 x3 : Int) : WA 2 0 1 cX7_pairsApart RX7 4 (some .int) (LYC x false false) (LYC x false false) K 4 [some (.ref 79), some (vi x1), some (vi x2), some (vi x3)] [] σ (b_Scene_pairsApart_scene0_4 F self σ x1 x2 x3) := by
  unfold b_Scene_pairsApart_scene0_4
  refine a_iload_n dX7_pairsApart_4 rfl ?_
  refine a_aload_n dX7_pairsApart_5 rfl ?_
  refine a_getI fl_X7_48 lyC_79 rfl dX7_pairsApart_6 (key := 5059) rfl ?_
  refine a_icmp_ge dX7_pairsApart_9 rfl (fun _ => ?_) (fun _ => ?_)
  · refine a_iload_n dX7_pairsApart_31 rfl ?_
    exact a_iret dX7_pairsApart_32
  refine a_aload_n dX7_pairsApart_12 rfl ?_
  refine a_iload_n dX7_pairsApart_13 rfl ?_
  refine a_iload_n dX7_pairsApart_14 rfl ?_
  refine a_callVi (as := [vi x3, vi x1]) mf_X7_118 lyC_79 rfl (c_Scene_partner_scene0 F _ _ _) LYsame.rf dX7_pairsApart_15 rfl rfl rfl rfl rfl rfl (Or.inl rfl) fun r1 σ2 => ?_
  refine a_iconst dX7_pairsApart_18 ?_
  refine a_icmp_eq dX7_pairsApart_19 rfl (fun _ => ?_) (fun _ => ?_)
  · refine a_bv fun x3_3 ex3_3 => ?_
    refine a_iinc (y := x3_3) (L' := [some (.ref 79), some (vi x1), some (vi x2), some (vi x3_3)]) dX7_pairsApart_25 rfl ex3_3 rfl rfl rfl ?_
    refine a_goto dX7_pairsApart_28 rfl ?_
    exact hself _ _ _ _
  refine a_bv fun x2_4 ex2_4 => ?_
  refine a_iinc (y := x2_4) (L' := [some (.ref 79), some (vi x1), some (vi x2_4), some (vi x3)]) dX7_pairsApart_22 rfl ex2_4 rfl rfl rfl ?_
  refine a_bv fun x3_5 ex3_5 => ?_
  refine a_iinc (y := x3_5) (L' := [some (.ref 79), some (vi x1), some (vi x2_4), some (vi x3_5)]) dX7_pairsApart_25 rfl ex3_5 rfl rfl rfl ?_
  refine a_goto dX7_pairsApart_28 rfl ?_
  exact hself _ _ _ _
set_option maxRecDepth 100000 in
set_option maxHeartbeats 4000000 in
theorem cl_Scene_pairsApart_scene0_4 {K : KX} {x : Bool} (F : Nat) : ∀ (n : Nat) (σ : St) (x1 x2 x3 : Int), WA 2 0 1 cX7_pairsApart RX7 4 (some .int) (LYC x false false) (LYC x false false) K 4 [some (.ref 79), some (vi x1), some (vi x2), some (vi x3)] [] σ (l_Scene_pairsApart_scene0_4 F n σ x1 x2 x3)
  | 0, _, _, _, _ => a_none
  | n + 1, σ, x1, x2, x3 => cb_Scene_pairsApart_scene0_4 F _ (cl_Scene_pairsApart_scene0_4 F n) σ x1 x2 x3
set_option maxRecDepth 100000 in
set_option maxHeartbeats 4000000 in
theorem c_Scene_pairsApart_scene0 {x : Bool} (F : Nat) (σ : St) (x1 : Int) : Ct 2 0 1 yX7_pairsApart cX7_pairsApart 4 (some .int) (LYC x false false) (LYC x false false) [.ref 79, vi x1] σ (f_Scene_pairsApart_scene0 F σ x1) := by
  unfold f_Scene_pairsApart_scene0
  refine Ct_of (d := 2) (kp := 0) (kd := 1) (own := RX7) (nL := 4) (ret := (some .int)) (LY := (LYC x false false)) (LYe := (LYC x false false)) (L := [some (.ref 79), some (vi x1), none, none]) rfl (by decide +kernel) rfl rfl mf_X10_208.2.2.2.1 rfl fun K => ?_
  refine a_iconst dX7_pairsApart_0 ?_
  refine a_istore_n (L' := [some (.ref 79), some (vi x1), some (vi 0), none]) dX7_pairsApart_1 rfl rfl rfl rfl ?_
  refine a_iconst dX7_pairsApart_2 ?_
  refine a_istore_n (L' := [some (.ref 79), some (vi x1), some (vi 0), some (vi 0)]) dX7_pairsApart_3 rfl rfl rfl rfl ?_
  exact cl_Scene_pairsApart_scene0_4 F F _ _ _ _
def f_W_apart (F : Nat) (σ : St) (x1 : Int) : Option (Int × St) := gd (rng x1) (if x1 < 0 then some ((-1), σ) else gd (rng x1 ∧ rng 99) (if x1 ≤ 99 then bnd (f_Scene_pairsApart_scene0 F σ x1) fun r1 σ2 => some (r1, σ2) else some ((-1), σ)))
set_option maxRecDepth 100000 in
set_option maxHeartbeats 4000000 in
theorem c_W_apart {x : Bool} (F : Nat) (σ : St) (x1 : Int) : Ct 3 0 1 yX10_apart cX10_apart 2 (some .int) (LYC x false false) (LYC x false false) [.ref 0, vi x1] σ (f_W_apart F σ x1) := by
  unfold f_W_apart
  refine Ct_of (d := 3) (kp := 0) (kd := 1) (own := RX10) (nL := 2) (ret := (some .int)) (LY := (LYC x false false)) (LYe := (LYC x false false)) (L := [some (.ref 0), some (vi x1)]) rfl (by decide +kernel) rfl rfl mf_L_96.2.2.2.1 rfl fun K => ?_
  refine a_iload_n dX10_apart_0 rfl ?_
  refine a_if_lt dX10_apart_1 rfl (fun _ => ?_) (fun _ => ?_)
  · refine a_iconst dX10_apart_10 ?_
    refine a_goto dX10_apart_11 rfl ?_
    exact a_iret dX10_apart_22
  refine a_iload_n dX10_apart_4 rfl ?_
  refine a_bipush dX10_apart_5 bi_99 ?_
  refine a_icmp_le dX10_apart_7 rfl (fun _ => ?_) (fun _ => ?_)
  · refine a_aload_n dX10_apart_14 rfl ?_
    refine a_getR (c0 := 79) fl_X10_26 lyC_0 rfl dX10_apart_15 (key := 2) rfl ?_
    refine a_iload_n dX10_apart_18 rfl ?_
    refine a_callVi (as := [vi x1]) mf_X10_208 lyC_79 rfl (c_Scene_pairsApart_scene0 F _ _) LYsame.rf dX10_apart_19 rfl rfl rfl rfl rfl rfl (Or.inl rfl) fun r1 σ2 => ?_
    exact a_iret dX10_apart_22
  refine a_iconst dX10_apart_10 ?_
  refine a_goto dX10_apart_11 rfl ?_
  exact a_iret dX10_apart_22
def b_Scene_longestRun_scene0_2 (F : Nat) (self : St → Int → Option (Int × St)) (σ : St) (x1 : Int) : Option (Int × St) := gd (rng x1 ∧ rng 46) (if (46 : Int) ≤ x1 then some ((x1 - 1), σ) else bnd (f_Scene_pairsApart_scene0 F σ x1) fun r1 σ2 => gd (rng r1) (if r1 ≤ 0 then some ((x1 - 1), σ2) else bv (x1 + 1) fun x1_3 => self σ2 x1_3))
def l_Scene_longestRun_scene0_2 (F : Nat) : Nat → St → Int → Option (Int × St)
  | 0 => fun _ _ => none
  | n + 1 => fun σ x1 => b_Scene_longestRun_scene0_2 F (l_Scene_longestRun_scene0_2 F n) σ x1
def f_Scene_longestRun_scene0 (F : Nat) (σ : St) : Option (Int × St) := l_Scene_longestRun_scene0_2 F F σ 0
set_option maxRecDepth 100000 in
set_option maxHeartbeats 4000000 in
theorem cb_Scene_longestRun_scene0_2 {K : KX} {x : Bool} (F : Nat) (self : St → Int → Option (Int × St)) (hself : ∀ σ x1, WA 3 0 1 cX7_longestRun RX7 2 (some .int) (LYC x false false) (LYC x false false) K 2 [some (.ref 79), some (vi x1)] [] σ (self σ x1)) (σ : St) (x1 : Int) : WA 3 0 1 cX7_longestRun RX7 2 (some .int) (LYC x false false) (LYC x false false) K 2 [some (.ref 79), some (vi x1)] [] σ (b_Scene_longestRun_scene0_2 F self σ x1) := by
  unfold b_Scene_longestRun_scene0_2
  refine a_iload_n dX7_longestRun_2 rfl ?_
  refine a_bipush dX7_longestRun_3 bi_46 ?_
  refine a_icmp_ge dX7_longestRun_5 rfl (fun _ => ?_) (fun _ => ?_)
  · refine a_iload_n dX7_longestRun_22 rfl ?_
    refine a_iconst dX7_longestRun_23 ?_
    refine a_isub dX7_longestRun_24 ?_
    exact a_iret dX7_longestRun_25
  refine a_aload_n dX7_longestRun_8 rfl ?_
  refine a_iload_n dX7_longestRun_9 rfl ?_
  refine a_callVi (as := [vi x1]) mf_X7_121 lyC_79 rfl (c_Scene_pairsApart_scene0 F _ _) LYsame.rf dX7_longestRun_10 rfl rfl rfl rfl rfl rfl (Or.inl rfl) fun r1 σ2 => ?_
  refine a_if_le dX7_longestRun_13 rfl (fun _ => ?_) (fun _ => ?_)
  · refine a_iload_n dX7_longestRun_22 rfl ?_
    refine a_iconst dX7_longestRun_23 ?_
    refine a_isub dX7_longestRun_24 ?_
    exact a_iret dX7_longestRun_25
  refine a_bv fun x1_3 ex1_3 => ?_
  refine a_iinc (y := x1_3) (L' := [some (.ref 79), some (vi x1_3)]) dX7_longestRun_16 rfl ex1_3 rfl rfl rfl ?_
  refine a_goto dX7_longestRun_19 rfl ?_
  exact hself _ _
set_option maxRecDepth 100000 in
set_option maxHeartbeats 4000000 in
theorem cl_Scene_longestRun_scene0_2 {K : KX} {x : Bool} (F : Nat) : ∀ (n : Nat) (σ : St) (x1 : Int), WA 3 0 1 cX7_longestRun RX7 2 (some .int) (LYC x false false) (LYC x false false) K 2 [some (.ref 79), some (vi x1)] [] σ (l_Scene_longestRun_scene0_2 F n σ x1)
  | 0, _, _ => a_none
  | n + 1, σ, x1 => cb_Scene_longestRun_scene0_2 F _ (cl_Scene_longestRun_scene0_2 F n) σ x1
set_option maxRecDepth 100000 in
set_option maxHeartbeats 4000000 in
theorem c_Scene_longestRun_scene0 {x : Bool} (F : Nat) (σ : St) : Ct 3 0 1 yX7_longestRun cX7_longestRun 2 (some .int) (LYC x false false) (LYC x false false) [.ref 79] σ (f_Scene_longestRun_scene0 F σ) := by
  unfold f_Scene_longestRun_scene0
  refine Ct_of (d := 3) (kp := 0) (kd := 1) (own := RX7) (nL := 2) (ret := (some .int)) (LY := (LYC x false false)) (LYe := (LYC x false false)) (L := [some (.ref 79), none]) rfl (by decide +kernel) rfl rfl mf_X10_211.2.2.2.1 rfl fun K => ?_
  refine a_iconst dX7_longestRun_0 ?_
  refine a_istore_n (L' := [some (.ref 79), some (vi 0)]) dX7_longestRun_1 rfl rfl rfl rfl ?_
  exact cl_Scene_longestRun_scene0_2 F F _ _
def f_W_run (F : Nat) (σ : St) : Option (Int × St) := bnd (f_Scene_longestRun_scene0 F σ) fun r1 σ2 => some (r1, σ2)
set_option maxRecDepth 100000 in
set_option maxHeartbeats 4000000 in
theorem c_W_run {x : Bool} (F : Nat) (σ : St) : Ct 4 0 1 yX10_run cX10_run 1 (some .int) (LYC x false false) (LYC x false false) [.ref 0] σ (f_W_run F σ) := by
  unfold f_W_run
  refine Ct_of (d := 4) (kp := 0) (kd := 1) (own := RX10) (nL := 1) (ret := (some .int)) (LY := (LYC x false false)) (LYe := (LYC x false false)) (L := [some (.ref 0)]) rfl (by decide +kernel) rfl rfl mf_L_100.2.2.2.1 rfl fun K => ?_
  refine a_aload_n dX10_run_0 rfl ?_
  refine a_getR (c0 := 79) fl_X10_26 lyC_0 rfl dX10_run_1 (key := 2) rfl ?_
  refine a_callVi (as := []) mf_X10_211 lyC_79 rfl (c_Scene_longestRun_scene0 F _) LYsame.rf dX10_run_4 rfl rfl rfl rfl rfl rfl (Or.inl rfl) fun r1 σ2 => ?_
  exact a_iret dX10_run_7
def b_Scene_lagOf_scene0_2 (F : Nat) (self : St → Int → Int → Option (Int × St)) (σ : St) (x1 x2 : Int) : Option (Int × St) := gd (rng x2 ∧ rng (gF σ 5059)) (if (gF σ 5059) ≤ x2 then some ((-1), σ) else bnd (f_Scene_partner_scene0 F σ x2 x1) fun r1 σ2 => gd (rng r1 ∧ rng (-1)) (if r1 = (-1) then bv (x2 + 1) fun x2_3 => self σ2 x1 x2_3 else gd (inb x2 10) (gd (rng (gA σ2 59 (Int.toNat x2))) (if (gA σ2 59 (Int.toNat x2)) = 0 then some (0, σ2) else gd (inb r1 10) (gd (rng (gA σ2 59 (Int.toNat r1))) (if (gA σ2 59 (Int.toNat r1)) = 0 then some (0, σ2) else gd (inb x2 10) (gd (inb r1 10) (bnd (f_Scene_coverWithoutGains_scene0 F σ2 (gA σ2 55 (Int.toNat x2)) (gA σ2 55 (Int.toNat r1))) fun r4 σ5 => some (r4, σ5)))))))))
def l_Scene_lagOf_scene0_2 (F : Nat) : Nat → St → Int → Int → Option (Int × St)
  | 0 => fun _ _ _ => none
  | n + 1 => fun σ x1 x2 => b_Scene_lagOf_scene0_2 F (l_Scene_lagOf_scene0_2 F n) σ x1 x2
def f_Scene_lagOf_scene0 (F : Nat) (σ : St) (x1 : Int) : Option (Int × St) := l_Scene_lagOf_scene0_2 F F σ x1 0
set_option maxRecDepth 100000 in
set_option maxHeartbeats 4000000 in
theorem cb_Scene_lagOf_scene0_2 {K : KX} {x : Bool} (F : Nat) (self : St → Int → Int → Option (Int × St)) (hself : ∀ σ x1 x2, WA 4 0 1 cX7_lagOf RX7 4 (some .int) (LYC x false false) (LYC x false false) K 2 [some (.ref 79), some (vi x1), some (vi x2), none] [] σ (self σ x1 x2)) (σ : St) (x1 x2 : Int) : WA 4 0 1 cX7_lagOf RX7 4 (some .int) (LYC x false false) (LYC x false false) K 2 [some (.ref 79), some (vi x1), some (vi x2), none] [] σ (b_Scene_lagOf_scene0_2 F self σ x1 x2) := by
  unfold b_Scene_lagOf_scene0_2
  refine a_iload_n dX7_lagOf_2 rfl ?_
  refine a_aload_n dX7_lagOf_3 rfl ?_
  refine a_getI fl_X7_48 lyC_79 rfl dX7_lagOf_4 (key := 5059) rfl ?_
  refine a_icmp_ge dX7_lagOf_7 rfl (fun _ => ?_) (fun _ => ?_)
  · refine a_iconst dX7_lagOf_67 ?_
    exact a_iret dX7_lagOf_68
  refine a_aload_n dX7_lagOf_10 rfl ?_
  refine a_iload_n dX7_lagOf_11 rfl ?_
  refine a_iload_n dX7_lagOf_12 rfl ?_
  refine a_callVi (as := [vi x2, vi x1]) mf_X7_118 lyC_79 rfl (c_Scene_partner_scene0 F _ _ _) LYsame.rf dX7_lagOf_13 rfl rfl rfl rfl rfl rfl (Or.inl rfl) fun r1 σ2 => ?_
  refine a_istore_n (L' := [some (.ref 79), some (vi x1), some (vi x2), some (vi r1)]) dX7_lagOf_16 rfl rfl rfl rfl ?_
  refine a_iload_n dX7_lagOf_17 rfl ?_
  refine a_iconst dX7_lagOf_18 ?_
  refine a_icmp_eq dX7_lagOf_19 rfl (fun _ => ?_) (fun _ => ?_)
  · refine a_bv fun x2_3 ex2_3 => ?_
    refine a_iinc (y := x2_3) (L' := [some (.ref 79), some (vi x1), some (vi x2_3), some (vi r1)]) dX7_lagOf_61 rfl ex2_3 rfl rfl rfl ?_
    refine a_goto dX7_lagOf_64 rfl ?_
    exact a_L (lsub_get (A := [some (.ref 79), some (vi x1), some (vi x2_3), none]) ⟨rfl, ⟨rfl, ⟨rfl, trivial⟩⟩⟩) (hself _ _ _)
  refine a_aload_n dX7_lagOf_22 rfl ?_
  refine a_getR (c0 := 59) fl_X7_29 lyC_79 rfl dX7_lagOf_23 (key := 5061) rfl ?_
  refine a_iload_n dX7_lagOf_26 rfl ?_
  refine a_iald lyC_59 rfl dX7_lagOf_27 ?_
  refine a_if_eq dX7_lagOf_28 rfl (fun _ => ?_) (fun _ => ?_)
  · refine a_iconst dX7_lagOf_40 ?_
    refine a_goto dX7_lagOf_41 rfl ?_
    exact a_iret dX7_lagOf_60
  refine a_aload_n dX7_lagOf_31 rfl ?_
  refine a_getR (c0 := 59) fl_X7_29 lyC_79 rfl dX7_lagOf_32 (key := 5061) rfl ?_
  refine a_iload_n dX7_lagOf_35 rfl ?_
  refine a_iald lyC_59 rfl dX7_lagOf_36 ?_
  refine a_if_ne dX7_lagOf_37 rfl (fun _ => ?_) (fun _ => ?_)
  · refine a_aload_n dX7_lagOf_44 rfl ?_
    refine a_aload_n dX7_lagOf_45 rfl ?_
    refine a_getR (c0 := 55) fl_X7_25 lyC_79 rfl dX7_lagOf_46 (key := 5060) rfl ?_
    refine a_iload_n dX7_lagOf_49 rfl ?_
    refine a_iald lyC_55 rfl dX7_lagOf_50 ?_
    refine a_aload_n dX7_lagOf_51 rfl ?_
    refine a_getR (c0 := 55) fl_X7_25 lyC_79 rfl dX7_lagOf_52 (key := 5060) rfl ?_
    refine a_iload_n dX7_lagOf_55 rfl ?_
    refine a_iald lyC_55 rfl dX7_lagOf_56 ?_
    refine a_callVi (as := [vi (gA σ2 55 (Int.toNat x2)), vi (gA σ2 55 (Int.toNat r1))]) mf_X7_91 lyC_79 rfl (c_Scene_coverWithoutGains_scene0 F _ _ _) LYsame.rf dX7_lagOf_57 rfl rfl rfl rfl rfl rfl (Or.inl rfl) fun r4 σ5 => ?_
    exact a_iret dX7_lagOf_60
  refine a_iconst dX7_lagOf_40 ?_
  refine a_goto dX7_lagOf_41 rfl ?_
  exact a_iret dX7_lagOf_60
set_option maxRecDepth 100000 in
set_option maxHeartbeats 4000000 in
theorem cl_Scene_lagOf_scene0_2 {K : KX} {x : Bool} (F : Nat) : ∀ (n : Nat) (σ : St) (x1 x2 : Int), WA 4 0 1 cX7_lagOf RX7 4 (some .int) (LYC x false false) (LYC x false false) K 2 [some (.ref 79), some (vi x1), some (vi x2), none] [] σ (l_Scene_lagOf_scene0_2 F n σ x1 x2)
  | 0, _, _, _ => a_none
  | n + 1, σ, x1, x2 => cb_Scene_lagOf_scene0_2 F _ (cl_Scene_lagOf_scene0_2 F n) σ x1 x2
set_option maxRecDepth 100000 in
set_option maxHeartbeats 4000000 in
theorem c_Scene_lagOf_scene0 {x : Bool} (F : Nat) (σ : St) (x1 : Int) : Ct 4 0 1 yX7_lagOf cX7_lagOf 4 (some .int) (LYC x false false) (LYC x false false) [.ref 79, vi x1] σ (f_Scene_lagOf_scene0 F σ x1) := by
  unfold f_Scene_lagOf_scene0
  refine Ct_of (d := 4) (kp := 0) (kd := 1) (own := RX7) (nL := 4) (ret := (some .int)) (LY := (LYC x false false)) (LYe := (LYC x false false)) (L := [some (.ref 79), some (vi x1), none, none]) rfl (by decide +kernel) rfl rfl mf_X10_215.2.2.2.1 rfl fun K => ?_
  refine a_iconst dX7_lagOf_0 ?_
  refine a_istore_n (L' := [some (.ref 79), some (vi x1), some (vi 0), none]) dX7_lagOf_1 rfl rfl rfl rfl ?_
  exact cl_Scene_lagOf_scene0_2 F F _ _ _
def f_W_lag (F : Nat) (σ : St) (x1 : Int) : Option (Int × St) := gd (rng x1) (if x1 < 0 then some ((-1), σ) else gd (rng x1 ∧ rng 99) (if (99 : Int) < x1 then some ((-1), σ) else bnd (f_Scene_pairsApart_scene0 F σ x1) fun r1 σ2 => gd (rng r1) (if r1 = 0 then some ((-1), σ2) else bnd (f_Scene_lagOf_scene0 F σ2 x1) fun r3 σ4 => some (r3, σ4))))
set_option maxRecDepth 100000 in
set_option maxHeartbeats 4000000 in
theorem c_W_lag {x : Bool} (F : Nat) (σ : St) (x1 : Int) : Ct 5 0 1 yX10_lag cX10_lag 2 (some .int) (LYC x false false) (LYC x false false) [.ref 0, vi x1] σ (f_W_lag F σ x1) := by
  unfold f_W_lag
  refine Ct_of (d := 5) (kp := 0) (kd := 1) (own := RX10) (nL := 2) (ret := (some .int)) (LY := (LYC x false false)) (LYe := (LYC x false false)) (L := [some (.ref 0), some (vi x1)]) rfl (by decide +kernel) rfl rfl mf_L_104.2.2.2.1 rfl fun K => ?_
  refine a_iload_n dX10_lag_0 rfl ?_
  refine a_if_lt dX10_lag_1 rfl (fun _ => ?_) (fun _ => ?_)
  · refine a_iconst dX10_lag_21 ?_
    refine a_goto dX10_lag_22 rfl ?_
    exact a_iret dX10_lag_33
  refine a_iload_n dX10_lag_4 rfl ?_
  refine a_bipush dX10_lag_5 bi_99 ?_
  refine a_icmp_gt dX10_lag_7 rfl (fun _ => ?_) (fun _ => ?_)
  · refine a_iconst dX10_lag_21 ?_
    refine a_goto dX10_lag_22 rfl ?_
    exact a_iret dX10_lag_33
  refine a_aload_n dX10_lag_10 rfl ?_
  refine a_getR (c0 := 79) fl_X10_26 lyC_0 rfl dX10_lag_11 (key := 2) rfl ?_
  refine a_iload_n dX10_lag_14 rfl ?_
  refine a_callVi (as := [vi x1]) mf_X10_208 lyC_79 rfl (c_Scene_pairsApart_scene0 F _ _) LYsame.rf dX10_lag_15 rfl rfl rfl rfl rfl rfl (Or.inl rfl) fun r1 σ2 => ?_
  refine a_if_ne dX10_lag_18 rfl (fun _ => ?_) (fun _ => ?_)
  · refine a_aload_n dX10_lag_25 rfl ?_
    refine a_getR (c0 := 79) fl_X10_26 lyC_0 rfl dX10_lag_26 (key := 2) rfl ?_
    refine a_iload_n dX10_lag_29 rfl ?_
    refine a_callVi (as := [vi x1]) mf_X10_215 lyC_79 rfl (c_Scene_lagOf_scene0 F _ _) LYsame.rf dX10_lag_30 rfl rfl rfl rfl rfl rfl (Or.inl rfl) fun r3 σ4 => ?_
    exact a_iret dX10_lag_33
  refine a_iconst dX10_lag_21 ?_
  refine a_goto dX10_lag_22 rfl ?_
  exact a_iret dX10_lag_33
def b_RuleFinder_isRoot_5 (F : Nat) (self : St → Int → Int → Int → Int → Option (Int × St)) (σ : St) (x1 x2 x3 x4 : Int) : Option (Int × St) := gd (rng x4 ∧ rng (gF σ 577)) (if (gF σ 577) ≤ x4 then gd (rng x3) (if x3 = 0 then some (1, σ) else some (0, σ)) else bnd (f_W_product F σ x3 x1 x2) fun r1 σ2 => gd (inb x4 46) (bnd (f_W_difference F σ2 r1 (gA σ2 10 (Int.toNat x4)) x2) fun r3 σ4 => bv (x4 + 1) fun x4_5 => self σ4 x1 x2 r3 x4_5))
def l_RuleFinder_isRoot_5 (F : Nat) : Nat → St → Int → Int → Int → Int → Option (Int × St)
  | 0 => fun _ _ _ _ _ => none
  | n + 1 => fun σ x1 x2 x3 x4 => b_RuleFinder_isRoot_5 F (l_RuleFinder_isRoot_5 F n) σ x1 x2 x3 x4
def f_RuleFinder_isRoot (F : Nat) (σ : St) (x1 x2 : Int) : Option (Int × St) := l_RuleFinder_isRoot_5 F F σ x1 x2 1 0
set_option maxRecDepth 100000 in
set_option maxHeartbeats 4000000 in
theorem cb_RuleFinder_isRoot_5 {K : KX} {x : Bool} (F : Nat) (self : St → Int → Int → Int → Int → Option (Int × St)) (hself : ∀ σ x1 x2 x3 x4, WA 2 0 1 cX6_isRoot RX6 5 (some .boolean) (LYC x false false) (LYC x false false) K 5 [some (.ref 7), some (vi x1), some (vi x2), some (vi x3), some (vi x4)] [] σ (self σ x1 x2 x3 x4)) (σ : St) (x1 x2 x3 x4 : Int) : WA 2 0 1 cX6_isRoot RX6 5 (some .boolean) (LYC x false false) (LYC x false false) K 5 [some (.ref 7), some (vi x1), some (vi x2), some (vi x3), some (vi x4)] [] σ (b_RuleFinder_isRoot_5 F self σ x1 x2 x3 x4) := by
  unfold b_RuleFinder_isRoot_5
  refine a_iload dX6_isRoot_5 rfl ?_
  refine a_aload_n dX6_isRoot_7 rfl ?_
  refine a_getR (c0 := 9) fl_X6_20 lyC_7 rfl dX6_isRoot_8 (key := 449) rfl ?_
  refine a_getI fl_X6_70 lyC_9 rfl dX6_isRoot_11 (key := 577) rfl ?_
  refine a_icmp_ge dX6_isRoot_14 rfl (fun _ => ?_) (fun _ => ?_)
  · refine a_iload_n dX6_isRoot_44 rfl ?_
    refine a_if_ne dX6_isRoot_45 rfl (fun _ => ?_) (fun _ => ?_)
    · refine a_iconst dX6_isRoot_52 ?_
      exact a_zretc (by decide) dX6_isRoot_53
    refine a_iconst dX6_isRoot_48 ?_
    refine a_goto dX6_isRoot_49 rfl ?_
    exact a_zretc (by decide) dX6_isRoot_53
  refine a_iload_n dX6_isRoot_17 rfl ?_
  refine a_iload_n dX6_isRoot_18 rfl ?_
  refine a_iload_n dX6_isRoot_19 rfl ?_
  refine a_callNi (as := [vi x3, vi x1, vi x2]) mf_X6_73 (c_W_product F _ _ _ _) LYsame.rf dX6_isRoot_20 rfl rfl rfl rfl rfl rfl (Or.inl rfl) fun r1 σ2 => ?_
  refine a_aload_n dX6_isRoot_23 rfl ?_
  refine a_getR (c0 := 9) fl_X6_20 lyC_7 rfl dX6_isRoot_24 (key := 449) rfl ?_
  refine a_getR (c0 := 10) fl_X6_77 lyC_9 rfl dX6_isRoot_27 (key := 576) rfl ?_
  refine a_iload dX6_isRoot_30 rfl ?_
  refine a_iald lyC_10 rfl dX6_isRoot_32 ?_
  refine a_iload_n dX6_isRoot_33 rfl ?_
  refine a_callNi (as := [vi r1, vi (gA σ2 10 (Int.toNat x4)), vi x2]) mf_X6_80 (c_W_difference F _ _ _ _) LYsame.rf dX6_isRoot_34 rfl rfl rfl rfl rfl rfl (Or.inl rfl) fun r3 σ4 => ?_
  refine a_istore_n (L' := [some (.ref 7), some (vi x1), some (vi x2), some (vi r3), some (vi x4)]) dX6_isRoot_37 rfl rfl rfl rfl ?_
  refine a_bv fun x4_5 ex4_5 => ?_
  refine a_iinc (y := x4_5) (L' := [some (.ref 7), some (vi x1), some (vi x2), some (vi r3), some (vi x4_5)]) dX6_isRoot_38 rfl ex4_5 rfl rfl rfl ?_
  refine a_goto dX6_isRoot_41 rfl ?_
  exact hself _ _ _ _ _
set_option maxRecDepth 100000 in
set_option maxHeartbeats 4000000 in
theorem cl_RuleFinder_isRoot_5 {K : KX} {x : Bool} (F : Nat) : ∀ (n : Nat) (σ : St) (x1 x2 x3 x4 : Int), WA 2 0 1 cX6_isRoot RX6 5 (some .boolean) (LYC x false false) (LYC x false false) K 5 [some (.ref 7), some (vi x1), some (vi x2), some (vi x3), some (vi x4)] [] σ (l_RuleFinder_isRoot_5 F n σ x1 x2 x3 x4)
  | 0, _, _, _, _, _ => a_none
  | n + 1, σ, x1, x2, x3, x4 => cb_RuleFinder_isRoot_5 F _ (cl_RuleFinder_isRoot_5 F n) σ x1 x2 x3 x4
set_option maxRecDepth 100000 in
set_option maxHeartbeats 4000000 in
theorem c_RuleFinder_isRoot {x : Bool} (F : Nat) (σ : St) (x1 x2 : Int) : Ct 2 0 1 yX6_isRoot cX6_isRoot 5 (some .boolean) (LYC x false false) (LYC x false false) [.ref 7, vi x1, vi x2] σ (f_RuleFinder_isRoot F σ x1 x2) := by
  unfold f_RuleFinder_isRoot
  refine Ct_of (d := 2) (kp := 0) (kd := 1) (own := RX6) (nL := 5) (ret := (some .boolean)) (LY := (LYC x false false)) (LYe := (LYC x false false)) (L := [some (.ref 7), some (vi x1), some (vi x2), none, none]) rfl (by decide +kernel) rfl rfl mf_X6_66.2.2.2.1 rfl fun K => ?_
  refine a_iconst dX6_isRoot_0 ?_
  refine a_istore_n (L' := [some (.ref 7), some (vi x1), some (vi x2), some (vi 1), none]) dX6_isRoot_1 rfl rfl rfl rfl ?_
  refine a_iconst dX6_isRoot_2 ?_
  refine a_istore (L' := [some (.ref 7), some (vi x1), some (vi x2), some (vi 1), some (vi 0)]) dX6_isRoot_3 rfl rfl rfl rfl ?_
  exact cl_RuleFinder_isRoot_5 F F _ _ _ _ _
def b_RuleFinder_findRoots_lattice0_7 (F : Nat) (self : St → Int → Option (Int × St)) (σ : St) (x2 : Int) : Option (Int × St) := gd (rng x2 ∧ rng (gF σ 1472)) (if (gF σ 1472) ≤ x2 then some (0, σ) else bnd (f_Lattice_waveAt_lattice0 F σ x2 1) fun r2 σ3 => bnd (f_RuleFinder_isRoot F σ3 r2 (gF σ3 1473)) fun r4 σ5 => gd (rng r4) (if r4 = 0 then bv (x2 + 1) fun x2_6 => self σ5 x2_6 else gd (sh6 x2) (bv (lorI (gF σ5 451) (1 * 2 ^ (Int.toNat x2))) fun t7 => bs (sF σ5 451 t7) fun σ8 => bv (x2 + 1) fun x2_9 => self σ8 x2_9)))
def l_RuleFinder_findRoots_lattice0_7 (F : Nat) : Nat → St → Int → Option (Int × St)
  | 0 => fun _ _ => none
  | n + 1 => fun σ x2 => b_RuleFinder_findRoots_lattice0_7 F (l_RuleFinder_findRoots_lattice0_7 F n) σ x2
def f_RuleFinder_findRoots_lattice0 (F : Nat) (σ : St) : Option (Int × St) := bs (sF σ 451 0) fun σ1 => l_RuleFinder_findRoots_lattice0_7 F F σ1 0
set_option maxRecDepth 100000 in
set_option maxHeartbeats 4000000 in
theorem cb_RuleFinder_findRoots_lattice0_7 {K : KX} {x : Bool} (F : Nat) (self : St → Int → Option (Int × St)) (hself : ∀ σ x2, WA 3 0 0 cX6_findRoots RX6 3 none (LYC x false false) (LYC x false false) K 7 [some (.ref 7), some (.ref 23), some (vi x2)] [] σ (self σ x2)) (σ : St) (x2 : Int) : WA 3 0 0 cX6_findRoots RX6 3 none (LYC x false false) (LYC x false false) K 7 [some (.ref 7), some (.ref 23), some (vi x2)] [] σ (b_RuleFinder_findRoots_lattice0_7 F self σ x2) := by
  unfold b_RuleFinder_findRoots_lattice0_7
  refine a_iload_n dX6_findRoots_7 rfl ?_
  refine a_aload_n dX6_findRoots_8 rfl ?_
  refine a_getI fl_X6_59 lyC_23 rfl dX6_findRoots_9 (key := 1472) rfl ?_
  refine a_icmp_ge dX6_findRoots_12 rfl (fun _ => ?_) (fun _ => ?_)
  · exact a_vret dX6_findRoots_50
  refine a_aload_n dX6_findRoots_15 rfl ?_
  refine a_aload_n dX6_findRoots_16 rfl ?_
  refine a_iload_n dX6_findRoots_17 rfl ?_
  refine a_iconst dX6_findRoots_18 ?_
  refine a_callVi (as := [vi x2, vi 1]) mf_X6_62 lyC_23 rfl (c_Lattice_waveAt_lattice0 F _ _ _) LYsame.rf dX6_findRoots_19 rfl rfl rfl rfl rfl rfl (Or.inl rfl) fun r2 σ3 => ?_
  refine a_aload_n dX6_findRoots_22 rfl ?_
  refine a_getI fl_X6_27 lyC_23 rfl dX6_findRoots_23 (key := 1473) rfl ?_
  refine a_callVi (as := [vi r2, vi (gF σ3 1473)]) mf_X6_66 lyC_7 rfl (c_RuleFinder_isRoot F _ _ _) LYsame.rf dX6_findRoots_26 rfl rfl rfl rfl rfl rfl (Or.inl rfl) fun r4 σ5 => ?_
  refine a_if_eq dX6_findRoots_29 rfl (fun _ => ?_) (fun _ => ?_)
  · refine a_bv fun x2_6 ex2_6 => ?_
    refine a_iinc (y := x2_6) (L' := [some (.ref 7), some (.ref 23), some (vi x2_6)]) dX6_findRoots_44 rfl ex2_6 rfl rfl rfl ?_
    refine a_goto dX6_findRoots_47 rfl ?_
    exact hself _ _
  refine a_aload_n dX6_findRoots_32 rfl ?_
  refine a_dup dX6_findRoots_33 rfl ?_
  refine a_getL fl_X6_55 lyC_7 rfl dX6_findRoots_34 (key := 451) rfl ?_
  refine a_lconst (v := 1) dX6_findRoots_37 rfl ?_
  refine a_iload_n dX6_findRoots_38 rfl ?_
  refine a_lshl dX6_findRoots_39 (fun _ => ?_)
  refine a_lor dX6_findRoots_40 ?_
  refine a_bvl fun t7 => ?_
  refine a_putL fl_X6_55 cf_X6 rfl rfl lyC_7 rfl dX6_findRoots_41 (key := 451) rfl fun σ8 => ?_
  refine a_bv fun x2_9 ex2_9 => ?_
  refine a_iinc (y := x2_9) (L' := [some (.ref 7), some (.ref 23), some (vi x2_9)]) dX6_findRoots_44 rfl ex2_9 rfl rfl rfl ?_
  refine a_goto dX6_findRoots_47 rfl ?_
  exact hself _ _
set_option maxRecDepth 100000 in
set_option maxHeartbeats 4000000 in
theorem cl_RuleFinder_findRoots_lattice0_7 {K : KX} {x : Bool} (F : Nat) : ∀ (n : Nat) (σ : St) (x2 : Int), WA 3 0 0 cX6_findRoots RX6 3 none (LYC x false false) (LYC x false false) K 7 [some (.ref 7), some (.ref 23), some (vi x2)] [] σ (l_RuleFinder_findRoots_lattice0_7 F n σ x2)
  | 0, _, _ => a_none
  | n + 1, σ, x2 => cb_RuleFinder_findRoots_lattice0_7 F _ (cl_RuleFinder_findRoots_lattice0_7 F n) σ x2
set_option maxRecDepth 100000 in
set_option maxHeartbeats 4000000 in
theorem c_RuleFinder_findRoots_lattice0 {x : Bool} (F : Nat) (σ : St) : Ct 3 0 0 yX6_findRoots cX6_findRoots 3 none (LYC x false false) (LYC x false false) [.ref 7, .ref 23] σ (f_RuleFinder_findRoots_lattice0 F σ) := by
  unfold f_RuleFinder_findRoots_lattice0
  refine Ct_of (d := 3) (kp := 0) (kd := 0) (own := RX6) (nL := 3) (ret := none) (LY := (LYC x false false)) (LYe := (LYC x false false)) (L := [some (.ref 7), some (.ref 23), none]) rfl (by decide +kernel) rfl rfl mf_X6_37.2.2.2.1 rfl fun K => ?_
  refine a_aload_n dX6_findRoots_0 rfl ?_
  refine a_lconst (v := 0) dX6_findRoots_1 rfl ?_
  refine a_putL fl_X6_55 cf_X6 rfl rfl lyC_7 rfl dX6_findRoots_2 (key := 451) rfl fun σ1 => ?_
  refine a_iconst dX6_findRoots_5 ?_
  refine a_istore_n (L' := [some (.ref 7), some (.ref 23), some (vi 0)]) dX6_findRoots_6 rfl rfl rfl rfl ?_
  exact cl_RuleFinder_findRoots_lattice0_7 F F _ _
def f_JL_bitCount (F : Nat) (σ : St) (x0 : Int) : Option (Int × St) := gd (sh6 1) (bv (x0 % 18446744073709551616 / 2 ^ (Int.toNat 1)) fun t1 => bv (x0 - (landI t1 6148914691236517205)) fun t2 => gd (sh6 2) (bv (t2 % 18446744073709551616 / 2 ^ (Int.toNat 2)) fun t3 => bv ((landI t2 3689348814741910323) + (landI t3 3689348814741910323)) fun t4 => gd (sh6 4) (bv (t4 % 18446744073709551616 / 2 ^ (Int.toNat 4)) fun t5 => bv (landI (t4 + t5) 1085102592571150095) fun t6 => gd (sh6 8) (bv (t6 % 18446744073709551616 / 2 ^ (Int.toNat 8)) fun t7 => bv (t6 + t7) fun x0_8 => gd (sh6 16) (bv (x0_8 % 18446744073709551616 / 2 ^ (Int.toNat 16)) fun t9 => bv (x0_8 + t9) fun x0_10 => gd (sh6 32) (bv (x0_10 % 18446744073709551616 / 2 ^ (Int.toNat 32)) fun t11 => bv (x0_10 + t11) fun x0_12 => some ((iandI x0_12 127), σ)))))))
set_option maxRecDepth 100000 in
set_option maxHeartbeats 4000000 in
theorem c_JL_bitCount {x : Bool} (F : Nat) (σ : St) (x0 : Int) : Ct 1 0 1 yJ13_bitCount_95d88 cJ13_bitCount_95d88 2 (some .int) (LYC x false false) (LYC x false false) [vl x0] σ (f_JL_bitCount F σ x0) := by
  unfold f_JL_bitCount
  refine Ct_of (d := 1) (kp := 0) (kd := 1) (own := RJ13) (nL := 2) (ret := (some .int)) (LY := (LYC x false false)) (LYe := (LYC x false false)) (L := [some (vl x0), none]) rfl (by decide +kernel) rfl rfl mf_X6_83.2.2.2.1 rfl fun K => ?_
  refine a_lload_n dJ13_bitCount_95d88_0 rfl ?_
  refine a_lload_n dJ13_bitCount_95d88_1 rfl ?_
  refine a_iconst dJ13_bitCount_95d88_2 ?_
  refine a_lushr dJ13_bitCount_95d88_3 (fun _ => ?_)
  refine a_bvl fun t1 => ?_
  refine a_ldc2 kc_J13_314 rfl dJ13_bitCount_95d88_4 ?_
  refine a_land dJ13_bitCount_95d88_7 ?_
  refine a_lsub dJ13_bitCount_95d88_8 ?_
  refine a_bvl fun t2 => ?_
  refine a_lstore_n (L' := [some (vl t2), none]) dJ13_bitCount_95d88_9 rfl rfl rfl rfl ?_
  refine a_lload_n dJ13_bitCount_95d88_10 rfl ?_
  refine a_ldc2 kc_J13_316 rfl dJ13_bitCount_95d88_11 ?_
  refine a_land dJ13_bitCount_95d88_14 ?_
  refine a_lload_n dJ13_bitCount_95d88_15 rfl ?_
  refine a_iconst dJ13_bitCount_95d88_16 ?_
  refine a_lushr dJ13_bitCount_95d88_17 (fun _ => ?_)
  refine a_bvl fun t3 => ?_
  refine a_ldc2 kc_J13_316 rfl dJ13_bitCount_95d88_18 ?_
  refine a_land dJ13_bitCount_95d88_21 ?_
  refine a_ladd dJ13_bitCount_95d88_22 ?_
  refine a_bvl fun t4 => ?_
  refine a_lstore_n (L' := [some (vl t4), none]) dJ13_bitCount_95d88_23 rfl rfl rfl rfl ?_
  refine a_lload_n dJ13_bitCount_95d88_24 rfl ?_
  refine a_lload_n dJ13_bitCount_95d88_25 rfl ?_
  refine a_iconst dJ13_bitCount_95d88_26 ?_
  refine a_lushr dJ13_bitCount_95d88_27 (fun _ => ?_)
  refine a_bvl fun t5 => ?_
  refine a_ladd dJ13_bitCount_95d88_28 ?_
  refine a_ldc2 kc_J13_318 rfl dJ13_bitCount_95d88_29 ?_
  refine a_land dJ13_bitCount_95d88_32 ?_
  refine a_bvl fun t6 => ?_
  refine a_lstore_n (L' := [some (vl t6), none]) dJ13_bitCount_95d88_33 rfl rfl rfl rfl ?_
  refine a_lload_n dJ13_bitCount_95d88_34 rfl ?_
  refine a_lload_n dJ13_bitCount_95d88_35 rfl ?_
  refine a_bipush dJ13_bitCount_95d88_36 bi_8 ?_
  refine a_lushr dJ13_bitCount_95d88_38 (fun _ => ?_)
  refine a_bvl fun t7 => ?_
  refine a_ladd dJ13_bitCount_95d88_39 ?_
  refine a_bv fun x0_8 ex0_8 => ?_
  refine a_lstore_n (y := x0_8) (L' := [some (vl x0_8), none]) dJ13_bitCount_95d88_40 ex0_8 rfl rfl rfl ?_
  refine a_lload_n dJ13_bitCount_95d88_41 rfl ?_
  refine a_lload_n dJ13_bitCount_95d88_42 rfl ?_
  refine a_bipush dJ13_bitCount_95d88_43 bi_16 ?_
  refine a_lushr dJ13_bitCount_95d88_45 (fun _ => ?_)
  refine a_bvl fun t9 => ?_
  refine a_ladd dJ13_bitCount_95d88_46 ?_
  refine a_bv fun x0_10 ex0_10 => ?_
  refine a_lstore_n (y := x0_10) (L' := [some (vl x0_10), none]) dJ13_bitCount_95d88_47 ex0_10 rfl rfl rfl ?_
  refine a_lload_n dJ13_bitCount_95d88_48 rfl ?_
  refine a_lload_n dJ13_bitCount_95d88_49 rfl ?_
  refine a_bipush dJ13_bitCount_95d88_50 bi_32 ?_
  refine a_lushr dJ13_bitCount_95d88_52 (fun _ => ?_)
  refine a_bvl fun t11 => ?_
  refine a_ladd dJ13_bitCount_95d88_53 ?_
  refine a_bv fun x0_12 ex0_12 => ?_
  refine a_lstore_n (y := x0_12) (L' := [some (vl x0_12), none]) dJ13_bitCount_95d88_54 ex0_12 rfl rfl rfl ?_
  refine a_lload_n dJ13_bitCount_95d88_55 rfl ?_
  refine a_l2i dJ13_bitCount_95d88_56 ?_
  refine a_bipush dJ13_bitCount_95d88_57 bi_127 ?_
  refine a_iand dJ13_bitCount_95d88_59 ?_
  exact a_iret dJ13_bitCount_95d88_60
def b_Rows_solve_strengths_59 (F : Nat) (self : St → Int → Int → Int → Option (Int × St)) (σ : St) (x2 x5 x6 : Int) : Option (Int × St) := gd (rng x6 ∧ rng x5) (if x5 ≤ x6 then some (1, σ) else gd (inb x6 46) (gd (inb x6 46) (gd (inb x2 70) (bv (gA σ (103 + (Int.toNat x6)) (Int.toNat x2)) fun t7 => gd (inb (gA σ 87 (Int.toNat x6)) 46) (bs (sA σ 12 (Int.toNat (gA σ 87 (Int.toNat x6))) t7) fun σ8 => bv (x6 + 1) fun x6_9 => self σ8 x2 x5 x6_9)))))
def l_Rows_solve_strengths_59 (F : Nat) : Nat → St → Int → Int → Int → Option (Int × St)
  | 0 => fun _ _ _ _ => none
  | n + 1 => fun σ x2 x5 x6 => b_Rows_solve_strengths_59 F (l_Rows_solve_strengths_59 F n) σ x2 x5 x6
def b_Rows_solve_strengths_35 (F : Nat) (self : St → Int → Int → Int → Option (Int × St)) (σ : St) (x2 x5 x6 : Int) : Option (Int × St) := gd (rng x6 ∧ rng x2) (if x2 ≤ x6 then l_Rows_solve_strengths_59 F F σ x2 x5 0 else gd (inb x6 46) (bs (sA σ 12 (Int.toNat x6) 0) fun σ10 => bv (x6 + 1) fun x6_11 => self σ10 x2 x5 x6_11))
def l_Rows_solve_strengths_35 (F : Nat) : Nat → St → Int → Int → Int → Option (Int × St)
  | 0 => fun _ _ _ _ => none
  | n + 1 => fun σ x2 x5 x6 => b_Rows_solve_strengths_35 F (l_Rows_solve_strengths_35 F n) σ x2 x5 x6
def f_Rows_solve_strengths (F : Nat) (σ : St) (x1 x2 x3 : Int) : Option (Int × St) := bnd (f_Rows_reduce F σ x1 (x2 + 1) x2 x3) fun r1 σ2 => bnd (f_Rows_rowWith F σ2 x2 r1 x1) fun r3 σ4 => gd (rng r3 ∧ rng (-1)) (if r3 = (-1) then bs (sF σ4 705 x2) fun σ5 => l_Rows_solve_strengths_35 F F σ5 x2 r1 0 else some (0, σ4))
set_option maxRecDepth 100000 in
set_option maxHeartbeats 4000000 in
theorem cb_Rows_solve_strengths_59 {K : KX} {x : Bool} (F : Nat) (self : St → Int → Int → Int → Option (Int × St)) (hself : ∀ σ x2 x5 x6, WA 4 1 1 cX5_solve RX5 7 (some .boolean) (LYC x false false) (LYC x false false) K 59 [some (.ref 85), none, some (vi x2), none, some (.ref 11), some (vi x5), some (vi x6)] [] σ (self σ x2 x5 x6)) (σ : St) (x2 x5 x6 : Int) : WA 4 1 1 cX5_solve RX5 7 (some .boolean) (LYC x false false) (LYC x false false) K 59 [some (.ref 85), none, some (vi x2), none, some (.ref 11), some (vi x5), some (vi x6)] [] σ (b_Rows_solve_strengths_59 F self σ x2 x5 x6) := by
  unfold b_Rows_solve_strengths_59
  refine a_iload dX5_solve_59 rfl ?_
  refine a_iload dX5_solve_61 rfl ?_
  refine a_icmp_ge dX5_solve_63 rfl (fun _ => ?_) (fun _ => ?_)
  · refine a_iconst dX5_solve_94 ?_
    exact a_zretc (by decide) dX5_solve_95
  refine a_aload dX5_solve_66 rfl ?_
  refine a_getR (c0 := 12) fl_X5_58 lyC_11 rfl dX5_solve_68 (key := 704) rfl ?_
  refine a_aload_n dX5_solve_71 rfl ?_
  refine a_getR (c0 := 87) fl_X5_16 lyC_85 rfl dX5_solve_72 (key := 5441) rfl ?_
  refine a_iload dX5_solve_75 rfl ?_
  refine a_iald lyC_87 rfl dX5_solve_77 ?_
  refine a_aload_n dX5_solve_78 rfl ?_
  refine a_getR (c0 := 86) fl_X5_13 lyC_85 rfl dX5_solve_79 (key := 5440) rfl ?_
  refine a_iload dX5_solve_82 rfl ?_
  refine a_aaldI lyC_86 rfl dX5_solve_84 fun hi6 => ?_
  refine a_iload_n dX5_solve_85 rfl ?_
  refine a_iald (lyC_r _ (ix_lt hi6)) rfl dX5_solve_86 ?_
  refine a_bvi fun t7 => ?_
  refine a_iast lyC_12 rfl dX5_solve_87 fun σ8 => ?_
  refine a_bv fun x6_9 ex6_9 => ?_
  refine a_iinc (y := x6_9) (L' := [some (.ref 85), none, some (vi x2), none, some (.ref 11), some (vi x5), some (vi x6_9)]) dX5_solve_88 rfl ex6_9 rfl rfl rfl ?_
  refine a_goto dX5_solve_91 rfl ?_
  exact hself _ _ _ _
set_option maxRecDepth 100000 in
set_option maxHeartbeats 4000000 in
theorem cl_Rows_solve_strengths_59 {K : KX} {x : Bool} (F : Nat) : ∀ (n : Nat) (σ : St) (x2 x5 x6 : Int), WA 4 1 1 cX5_solve RX5 7 (some .boolean) (LYC x false false) (LYC x false false) K 59 [some (.ref 85), none, some (vi x2), none, some (.ref 11), some (vi x5), some (vi x6)] [] σ (l_Rows_solve_strengths_59 F n σ x2 x5 x6)
  | 0, _, _, _, _ => a_none
  | n + 1, σ, x2, x5, x6 => cb_Rows_solve_strengths_59 F _ (cl_Rows_solve_strengths_59 F n) σ x2 x5 x6
set_option maxRecDepth 100000 in
set_option maxHeartbeats 4000000 in
theorem cb_Rows_solve_strengths_35 {K : KX} {x : Bool} (F : Nat) (self : St → Int → Int → Int → Option (Int × St)) (hself : ∀ σ x2 x5 x6, WA 4 1 1 cX5_solve RX5 7 (some .boolean) (LYC x false false) (LYC x false false) K 35 [some (.ref 85), none, some (vi x2), none, some (.ref 11), some (vi x5), some (vi x6)] [] σ (self σ x2 x5 x6)) (σ : St) (x2 x5 x6 : Int) : WA 4 1 1 cX5_solve RX5 7 (some .boolean) (LYC x false false) (LYC x false false) K 35 [some (.ref 85), none, some (vi x2), none, some (.ref 11), some (vi x5), some (vi x6)] [] σ (b_Rows_solve_strengths_35 F self σ x2 x5 x6) := by
  unfold b_Rows_solve_strengths_35
  refine a_iload dX5_solve_35 rfl ?_
  refine a_iload_n dX5_solve_37 rfl ?_
  refine a_icmp_ge dX5_solve_38 rfl (fun _ => ?_) (fun _ => ?_)
  · refine a_iconst dX5_solve_56 ?_
    refine a_istore (L' := [some (.ref 85), none, some (vi x2), none, some (.ref 11), some (vi x5), some (vi 0)]) dX5_solve_57 rfl rfl rfl rfl ?_
    exact cl_Rows_solve_strengths_59 F F _ _ _ _
  refine a_aload dX5_solve_41 rfl ?_
  refine a_getR (c0 := 12) fl_X5_58 lyC_11 rfl dX5_solve_43 (key := 704) rfl ?_
  refine a_iload dX5_solve_46 rfl ?_
  refine a_iconst dX5_solve_48 ?_
  refine a_iast lyC_12 rfl dX5_solve_49 fun σ10 => ?_
  refine a_bv fun x6_11 ex6_11 => ?_
  refine a_iinc (y := x6_11) (L' := [some (.ref 85), none, some (vi x2), none, some (.ref 11), some (vi x5), some (vi x6_11)]) dX5_solve_50 rfl ex6_11 rfl rfl rfl ?_
  refine a_goto dX5_solve_53 rfl ?_
  exact hself _ _ _ _
set_option maxRecDepth 100000 in
set_option maxHeartbeats 4000000 in
theorem cl_Rows_solve_strengths_35 {K : KX} {x : Bool} (F : Nat) : ∀ (n : Nat) (σ : St) (x2 x5 x6 : Int), WA 4 1 1 cX5_solve RX5 7 (some .boolean) (LYC x false false) (LYC x false false) K 35 [some (.ref 85), none, some (vi x2), none, some (.ref 11), some (vi x5), some (vi x6)] [] σ (l_Rows_solve_strengths_35 F n σ x2 x5 x6)
  | 0, _, _, _, _ => a_none
  | n + 1, σ, x2, x5, x6 => cb_Rows_solve_strengths_35 F _ (cl_Rows_solve_strengths_35 F n) σ x2 x5 x6
set_option maxRecDepth 100000 in
set_option maxHeartbeats 4000000 in
theorem c_Rows_solve_strengths {x : Bool} (F : Nat) (σ : St) (x1 x2 x3 : Int) : Ct 4 1 1 yX5_solve cX5_solve 7 (some .boolean) (LYC x false false) (LYC x false false) [.ref 85, vi x1, vi x2, vi x3, .ref 11] σ (f_Rows_solve_strengths F σ x1 x2 x3) := by
  unfold f_Rows_solve_strengths
  refine Ct_of (d := 4) (kp := 1) (kd := 1) (own := RX5) (nL := 7) (ret := (some .boolean)) (LY := (LYC x false false)) (LYe := (LYC x false false)) (L := [some (.ref 85), some (vi x1), some (vi x2), some (vi x3), some (.ref 11), none, none]) rfl (by decide +kernel) rfl rfl mf_X10_309.2.2.2.1 rfl fun K => ?_
  refine a_aload_n dX5_solve_0 rfl ?_
  refine a_iload_n dX5_solve_1 rfl ?_
  refine a_iload_n dX5_solve_2 rfl ?_
  refine a_iconst dX5_solve_3 ?_
  refine a_iadd dX5_solve_4 ?_
  refine a_iload_n dX5_solve_5 rfl ?_
  refine a_iload_n dX5_solve_6 rfl ?_
  refine a_callVi (as := [vi x1, vi (x2 + 1), vi x2, vi x3]) mf_X5_49 lyC_85 rfl (c_Rows_reduce F _ _ _ _ _) LYsame.rf dX5_solve_7 rfl rfl rfl rfl rfl rfl (Or.inr rfl) fun r1 σ2 => ?_
  refine a_istore (L' := [some (.ref 85), some (vi x1), some (vi x2), some (vi x3), some (.ref 11), some (vi r1), none]) dX5_solve_10 rfl rfl rfl rfl ?_
  refine a_aload_n dX5_solve_12 rfl ?_
  refine a_iload_n dX5_solve_13 rfl ?_
  refine a_iload dX5_solve_14 rfl ?_
  refine a_iload_n dX5_solve_16 rfl ?_
  refine a_callVi (as := [vi x2, vi r1, vi x1]) mf_X5_20 lyC_85 rfl (c_Rows_rowWith F _ _ _ _) LYsame.rf dX5_solve_17 rfl rfl rfl rfl rfl rfl (Or.inl rfl) fun r3 σ4 => ?_
  refine a_iconst dX5_solve_20 ?_
  refine a_icmp_eq dX5_solve_21 rfl (fun _ => ?_) (fun _ => ?_)
  · refine a_aload dX5_solve_26 rfl ?_
    refine a_iload_n dX5_solve_28 rfl ?_
    refine a_putI fl_X5_53 cf_X9 rfl rfl lyC_11 rfl dX5_solve_29 (key := 705) rfl fun σ5 => ?_
    refine a_iconst dX5_solve_32 ?_
    refine a_istore (L' := [some (.ref 85), some (vi x1), some (vi x2), some (vi x3), some (.ref 11), some (vi r1), some (vi 0)]) dX5_solve_33 rfl rfl rfl rfl ?_
    exact a_L (lsub_get (A := [some (.ref 85), none, some (vi x2), none, some (.ref 11), some (vi r1), some (vi 0)]) ⟨rfl, ⟨rfl, ⟨rfl, ⟨rfl, ⟨rfl, trivial⟩⟩⟩⟩⟩) (cl_Rows_solve_strengths_35 F F _ _ _ _)
  refine a_iconst dX5_solve_24 ?_
  exact a_zretc (by decide) dX5_solve_25
def b_RuleFinder_findStrengths_lattice0_106 (F : Nat) (self : St → Int → Int → Option (Int × St)) (σ : St) (x3 x5 : Int) : Option (Int × St) := gd (rng x5 ∧ rng x3) (if x3 ≤ x5 then bnd (f_Rows_solve_strengths F σ x3 x3 (gF σ 1473)) fun r5 σ6 => some (0, σ6) else gd (inb x5 46) (gd (inb x5 46) (gd (inb x3 70) (bs (sA σ (103 + (Int.toNat x5)) (Int.toNat x3) (gA σ 8 (Int.toNat x5))) fun σ8 => bv (x5 + 1) fun x5_9 => self σ8 x3 x5_9))))
def l_RuleFinder_findStrengths_lattice0_106 (F : Nat) : Nat → St → Int → Int → Option (Int × St)
  | 0 => fun _ _ _ => none
  | n + 1 => fun σ x3 x5 => b_RuleFinder_findStrengths_lattice0_106 F (l_RuleFinder_findStrengths_lattice0_106 F n) σ x3 x5
def b_RuleFinder_findStrengths_lattice0_64 (F : Nat) (k38 : St → Int → Int → Int → Option (Int × St)) (self : St → Int → Int → Int → Int → Option (Int × St)) (σ : St) (x3 x4 x5 x6 : Int) : Option (Int × St) := gd (rng x6 ∧ rng x3) (if x3 ≤ x6 then bv (x4 + 1) fun x4_12 => bv (x5 + 1) fun x5_13 => k38 σ x3 x4_12 x5_13 else gd (inb x6 46) (bnd (f_Lattice_waveAt_lattice0 F σ x5 x6) fun r15 σ16 => gd (inb x4 70) (bs (sA σ16 (103 + (Int.toNat x6)) (Int.toNat x4) r15) fun σ17 => bv (x6 + 1) fun x6_18 => self σ17 x3 x4 x5 x6_18)))
def l_RuleFinder_findStrengths_lattice0_64 (F : Nat) (k38 : St → Int → Int → Int → Option (Int × St)) : Nat → St → Int → Int → Int → Int → Option (Int × St)
  | 0 => fun _ _ _ _ _ => none
  | n + 1 => fun σ x3 x4 x5 x6 => b_RuleFinder_findStrengths_lattice0_64 F k38 (l_RuleFinder_findStrengths_lattice0_64 F k38 n) σ x3 x4 x5 x6
def b_RuleFinder_findStrengths_lattice0_38 (F : Nat) (self : St → Int → Int → Int → Option (Int × St)) (σ : St) (x3 x4 x5 : Int) : Option (Int × St) := gd (rng x5 ∧ rng (gF σ 1472)) (if (gF σ 1472) ≤ x5 then l_RuleFinder_findStrengths_lattice0_106 F F σ x3 0 else gd (rng64 (gF σ 451) ∧ sh6 x5) (bv ((gF σ 451) / 2 ^ (Int.toNat x5)) fun t10 => gd (rng64 (landI t10 1) ∧ rng64 1) (if (landI t10 1) = 1 then l_RuleFinder_findStrengths_lattice0_64 F self F σ x3 x4 x5 0 else bv (x5 + 1) fun x5_11 => self σ x3 x4 x5_11)))
def l_RuleFinder_findStrengths_lattice0_38 (F : Nat) : Nat → St → Int → Int → Int → Option (Int × St)
  | 0 => fun _ _ _ _ => none
  | n + 1 => fun σ x3 x4 x5 => b_RuleFinder_findStrengths_lattice0_38 F (l_RuleFinder_findStrengths_lattice0_38 F n) σ x3 x4 x5
def f_RuleFinder_findStrengths_lattice0 (F : Nat) (σ : St) : Option (Int × St) := bv (gF σ 577) fun x3_1 => bs (sF σ 705 0) fun σ2 => gd (rng x3_1) (if x3_1 = 0 then some (0, σ2) else bnd (f_JL_bitCount F σ2 (gF σ2 451)) fun r3 σ4 => gd (rng r3 ∧ rng x3_1) (if r3 = x3_1 then l_RuleFinder_findStrengths_lattice0_38 F F σ4 x3_1 0 0 else some (0, σ4)))
set_option maxRecDepth 100000 in
set_option maxHeartbeats 4000000 in
theorem cb_RuleFinder_findStrengths_lattice0_106 {K : KX} {x : Bool} (F : Nat) (self : St → Int → Int → Option (Int × St)) (hself : ∀ σ x3 x5, WA 5 1 0 cX6_findStrengths RX6 7 none (LYC x false false) (LYC x false false) K 106 [some (.ref 7), some (.ref 23), some (.ref 85), some (vi x3), none, some (vi x5), none] [] σ (self σ x3 x5)) (σ : St) (x3 x5 : Int) : WA 5 1 0 cX6_findStrengths RX6 7 none (LYC x false false) (LYC x false false) K 106 [some (.ref 7), some (.ref 23), some (.ref 85), some (vi x3), none, some (vi x5), none] [] σ (b_RuleFinder_findStrengths_lattice0_106 F self σ x3 x5) := by
  unfold b_RuleFinder_findStrengths_lattice0_106
  refine a_iload dX6_findStrengths_106 rfl ?_
  refine a_iload_n dX6_findStrengths_108 rfl ?_
  refine a_icmp_ge dX6_findStrengths_109 rfl (fun _ => ?_) (fun _ => ?_)
  · refine a_aload_n dX6_findStrengths_134 rfl ?_
    refine a_iload_n dX6_findStrengths_135 rfl ?_
    refine a_iload_n dX6_findStrengths_136 rfl ?_
    refine a_aload_n dX6_findStrengths_137 rfl ?_
    refine a_getI fl_X6_27 lyC_23 rfl dX6_findStrengths_138 (key := 1473) rfl ?_
    refine a_aload_n dX6_findStrengths_141 rfl ?_
    refine a_getR (c0 := 11) fl_X6_24 lyC_7 rfl dX6_findStrengths_142 (key := 450) rfl ?_
    refine a_callVi (as := [vi x3, vi x3, vi (gF σ 1473), .ref 11]) mf_X6_51 lyC_85 rfl (c_Rows_solve_strengths F _ _ _ _) LYsame.rf dX6_findStrengths_145 rfl rfl rfl rfl rfl rfl (Or.inr rfl) fun r5 σ6 => ?_
    refine a_pop dX6_findStrengths_148 rfl ?_
    exact a_vret dX6_findStrengths_149
  refine a_aload_n dX6_findStrengths_112 rfl ?_
  refine a_getR (c0 := 86) fl_X6_45 lyC_85 rfl dX6_findStrengths_113 (key := 5440) rfl ?_
  refine a_iload dX6_findStrengths_116 rfl ?_
  refine a_aaldI lyC_86 rfl dX6_findStrengths_118 fun hi7 => ?_
  refine a_iload_n dX6_findStrengths_119 rfl ?_
  refine a_aload_n dX6_findStrengths_120 rfl ?_
  refine a_getR (c0 := 8) fl_X6_9 lyC_7 rfl dX6_findStrengths_121 (key := 448) rfl ?_
  refine a_iload dX6_findStrengths_124 rfl ?_
  refine a_iald lyC_8 rfl dX6_findStrengths_126 ?_
  refine a_iast (lyC_r _ (ix_lt hi7)) rfl dX6_findStrengths_127 fun σ8 => ?_
  refine a_bv fun x5_9 ex5_9 => ?_
  refine a_iinc (y := x5_9) (L' := [some (.ref 7), some (.ref 23), some (.ref 85), some (vi x3), none, some (vi x5_9), none]) dX6_findStrengths_128 rfl ex5_9 rfl rfl rfl ?_
  refine a_goto dX6_findStrengths_131 rfl ?_
  exact hself _ _ _
set_option maxRecDepth 100000 in
set_option maxHeartbeats 4000000 in
theorem cl_RuleFinder_findStrengths_lattice0_106 {K : KX} {x : Bool} (F : Nat) : ∀ (n : Nat) (σ : St) (x3 x5 : Int), WA 5 1 0 cX6_findStrengths RX6 7 none (LYC x false false) (LYC x false false) K 106 [some (.ref 7), some (.ref 23), some (.ref 85), some (vi x3), none, some (vi x5), none] [] σ (l_RuleFinder_findStrengths_lattice0_106 F n σ x3 x5)
  | 0, _, _, _ => a_none
  | n + 1, σ, x3, x5 => cb_RuleFinder_findStrengths_lattice0_106 F _ (cl_RuleFinder_findStrengths_lattice0_106 F n) σ x3 x5
set_option maxRecDepth 100000 in
set_option maxHeartbeats 4000000 in
theorem cb_RuleFinder_findStrengths_lattice0_64 {K : KX} {x : Bool} (F : Nat) (k38 : St → Int → Int → Int → Option (Int × St)) (h38 : ∀ σ x3 x4 x5, WA 5 1 0 cX6_findStrengths RX6 7 none (LYC x false false) (LYC x false false) K 38 [some (.ref 7), some (.ref 23), some (.ref 85), some (vi x3), some (vi x4), some (vi x5), none] [] σ (k38 σ x3 x4 x5)) (self : St → Int → Int → Int → Int → Option (Int × St)) (hself : ∀ σ x3 x4 x5 x6, WA 5 1 0 cX6_findStrengths RX6 7 none (LYC x false false) (LYC x false false) K 64 [some (.ref 7), some (.ref 23), some (.ref 85), some (vi x3), some (vi x4), some (vi x5), some (vi x6)] [] σ (self σ x3 x4 x5 x6)) (σ : St) (x3 x4 x5 x6 : Int) : WA 5 1 0 cX6_findStrengths RX6 7 none (LYC x false false) (LYC x false false) K 64 [some (.ref 7), some (.ref 23), some (.ref 85), some (vi x3), some (vi x4), some (vi x5), some (vi x6)] [] σ (b_RuleFinder_findStrengths_lattice0_64 F k38 self σ x3 x4 x5 x6) := by
  unfold b_RuleFinder_findStrengths_lattice0_64
  refine a_iload dX6_findStrengths_64 rfl ?_
  refine a_iload_n dX6_findStrengths_66 rfl ?_
  refine a_icmp_ge dX6_findStrengths_67 rfl (fun _ => ?_) (fun _ => ?_)
  · refine a_bv fun x4_12 ex4_12 => ?_
    refine a_iinc (y := x4_12) (L' := [some (.ref 7), some (.ref 23), some (.ref 85), some (vi x3), some (vi x4_12), some (vi x5), some (vi x6)]) dX6_findStrengths_94 rfl ex4_12 rfl rfl rfl ?_
    refine a_bv fun x5_13 ex5_13 => ?_
    refine a_iinc (y := x5_13) (L' := [some (.ref 7), some (.ref 23), some (.ref 85), some (vi x3), some (vi x4_12), some (vi x5_13), some (vi x6)]) dX6_findStrengths_97 rfl ex5_13 rfl rfl rfl ?_
    refine a_goto dX6_findStrengths_100 rfl ?_
    exact a_L (lsub_get (A := [some (.ref 7), some (.ref 23), some (.ref 85), some (vi x3), some (vi x4_12), some (vi x5_13), none]) ⟨rfl, ⟨rfl, ⟨rfl, ⟨rfl, ⟨rfl, ⟨rfl, trivial⟩⟩⟩⟩⟩⟩) (h38 _ _ _ _)
  refine a_aload_n dX6_findStrengths_70 rfl ?_
  refine a_getR (c0 := 86) fl_X6_45 lyC_85 rfl dX6_findStrengths_71 (key := 5440) rfl ?_
  refine a_iload dX6_findStrengths_74 rfl ?_
  refine a_aaldI lyC_86 rfl dX6_findStrengths_76 fun hi14 => ?_
  refine a_iload dX6_findStrengths_77 rfl ?_
  refine a_aload_n dX6_findStrengths_79 rfl ?_
  refine a_iload dX6_findStrengths_80 rfl ?_
  refine a_iload dX6_findStrengths_82 rfl ?_
  refine a_callVi (as := [vi x5, vi x6]) mf_X6_62 lyC_23 rfl (c_Lattice_waveAt_lattice0 F _ _ _) LYsame.rf dX6_findStrengths_84 rfl rfl rfl rfl rfl rfl (Or.inl rfl) fun r15 σ16 => ?_
  refine a_iast (lyC_r _ (ix_lt hi14)) rfl dX6_findStrengths_87 fun σ17 => ?_
  refine a_bv fun x6_18 ex6_18 => ?_
  refine a_iinc (y := x6_18) (L' := [some (.ref 7), some (.ref 23), some (.ref 85), some (vi x3), some (vi x4), some (vi x5), some (vi x6_18)]) dX6_findStrengths_88 rfl ex6_18 rfl rfl rfl ?_
  refine a_goto dX6_findStrengths_91 rfl ?_
  exact hself _ _ _ _ _
set_option maxRecDepth 100000 in
set_option maxHeartbeats 4000000 in
theorem cl_RuleFinder_findStrengths_lattice0_64 {K : KX} {x : Bool} (F : Nat) (k38 : St → Int → Int → Int → Option (Int × St)) (h38 : ∀ σ x3 x4 x5, WA 5 1 0 cX6_findStrengths RX6 7 none (LYC x false false) (LYC x false false) K 38 [some (.ref 7), some (.ref 23), some (.ref 85), some (vi x3), some (vi x4), some (vi x5), none] [] σ (k38 σ x3 x4 x5)) : ∀ (n : Nat) (σ : St) (x3 x4 x5 x6 : Int), WA 5 1 0 cX6_findStrengths RX6 7 none (LYC x false false) (LYC x false false) K 64 [some (.ref 7), some (.ref 23), some (.ref 85), some (vi x3), some (vi x4), some (vi x5), some (vi x6)] [] σ (l_RuleFinder_findStrengths_lattice0_64 F k38 n σ x3 x4 x5 x6)
  | 0, _, _, _, _, _ => a_none
  | n + 1, σ, x3, x4, x5, x6 => cb_RuleFinder_findStrengths_lattice0_64 F k38 h38 _ (cl_RuleFinder_findStrengths_lattice0_64 F k38 h38 n) σ x3 x4 x5 x6
set_option maxRecDepth 100000 in
set_option maxHeartbeats 4000000 in
theorem cb_RuleFinder_findStrengths_lattice0_38 {K : KX} {x : Bool} (F : Nat) (self : St → Int → Int → Int → Option (Int × St)) (hself : ∀ σ x3 x4 x5, WA 5 1 0 cX6_findStrengths RX6 7 none (LYC x false false) (LYC x false false) K 38 [some (.ref 7), some (.ref 23), some (.ref 85), some (vi x3), some (vi x4), some (vi x5), none] [] σ (self σ x3 x4 x5)) (σ : St) (x3 x4 x5 : Int) : WA 5 1 0 cX6_findStrengths RX6 7 none (LYC x false false) (LYC x false false) K 38 [some (.ref 7), some (.ref 23), some (.ref 85), some (vi x3), some (vi x4), some (vi x5), none] [] σ (b_RuleFinder_findStrengths_lattice0_38 F self σ x3 x4 x5) := by
  unfold b_RuleFinder_findStrengths_lattice0_38
  refine a_iload dX6_findStrengths_38 rfl ?_
  refine a_aload_n dX6_findStrengths_40 rfl ?_
  refine a_getI fl_X6_59 lyC_23 rfl dX6_findStrengths_41 (key := 1472) rfl ?_
  refine a_icmp_ge dX6_findStrengths_44 rfl (fun _ => ?_) (fun _ => ?_)
  · refine a_iconst dX6_findStrengths_103 ?_
    refine a_istore (L' := [some (.ref 7), some (.ref 23), some (.ref 85), some (vi x3), some (vi x4), some (vi 0), none]) dX6_findStrengths_104 rfl rfl rfl rfl ?_
    exact a_L (lsub_get (A := [some (.ref 7), some (.ref 23), some (.ref 85), some (vi x3), none, some (vi 0), none]) ⟨rfl, ⟨rfl, ⟨rfl, ⟨rfl, ⟨rfl, trivial⟩⟩⟩⟩⟩) (cl_RuleFinder_findStrengths_lattice0_106 F F _ _ _)
  refine a_aload_n dX6_findStrengths_47 rfl ?_
  refine a_getL fl_X6_55 lyC_7 rfl dX6_findStrengths_48 (key := 451) rfl ?_
  refine a_iload dX6_findStrengths_51 rfl ?_
  refine a_lshr dX6_findStrengths_53 (fun _ => ?_)
  refine a_bvl fun t10 => ?_
  refine a_lconst (v := 1) dX6_findStrengths_54 rfl ?_
  refine a_land dX6_findStrengths_55 ?_
  refine a_lconst (v := 1) dX6_findStrengths_56 rfl ?_
  refine a_lcmp_ne dX6_findStrengths_57 dX6_findStrengths_58 rfl (fun _ => ?_) (fun _ => ?_)
  · refine a_bv fun x5_11 ex5_11 => ?_
    refine a_iinc (y := x5_11) (L' := [some (.ref 7), some (.ref 23), some (.ref 85), some (vi x3), some (vi x4), some (vi x5_11), none]) dX6_findStrengths_97 rfl ex5_11 rfl rfl rfl ?_
    refine a_goto dX6_findStrengths_100 rfl ?_
    exact hself _ _ _ _
  refine a_iconst dX6_findStrengths_61 ?_
  refine a_istore (L' := [some (.ref 7), some (.ref 23), some (.ref 85), some (vi x3), some (vi x4), some (vi x5), some (vi 0)]) dX6_findStrengths_62 rfl rfl rfl rfl ?_
  exact cl_RuleFinder_findStrengths_lattice0_64 F _ hself F _ _ _ _ _
set_option maxRecDepth 100000 in
set_option maxHeartbeats 4000000 in
theorem cl_RuleFinder_findStrengths_lattice0_38 {K : KX} {x : Bool} (F : Nat) : ∀ (n : Nat) (σ : St) (x3 x4 x5 : Int), WA 5 1 0 cX6_findStrengths RX6 7 none (LYC x false false) (LYC x false false) K 38 [some (.ref 7), some (.ref 23), some (.ref 85), some (vi x3), some (vi x4), some (vi x5), none] [] σ (l_RuleFinder_findStrengths_lattice0_38 F n σ x3 x4 x5)
  | 0, _, _, _, _ => a_none
  | n + 1, σ, x3, x4, x5 => cb_RuleFinder_findStrengths_lattice0_38 F _ (cl_RuleFinder_findStrengths_lattice0_38 F n) σ x3 x4 x5
set_option maxRecDepth 100000 in
set_option maxHeartbeats 4000000 in
theorem c_RuleFinder_findStrengths_lattice0 {x : Bool} (F : Nat) (σ : St) : Ct 5 1 0 yX6_findStrengths cX6_findStrengths 7 none (LYC x false false) (LYC x false false) [.ref 7, .ref 23, .ref 85] σ (f_RuleFinder_findStrengths_lattice0 F σ) := by
  unfold f_RuleFinder_findStrengths_lattice0
  refine Ct_of (d := 5) (kp := 1) (kd := 0) (own := RX6) (nL := 7) (ret := none) (LY := (LYC x false false)) (LYe := (LYC x false false)) (L := [some (.ref 7), some (.ref 23), some (.ref 85), none, none, none, none]) rfl (by decide +kernel) rfl rfl mf_X6_41.2.2.2.1 rfl fun K => ?_
  refine a_aload_n dX6_findStrengths_0 rfl ?_
  refine a_getR (c0 := 9) fl_X6_20 lyC_7 rfl dX6_findStrengths_1 (key := 449) rfl ?_
  refine a_getI fl_X6_70 lyC_9 rfl dX6_findStrengths_4 (key := 577) rfl ?_
  refine a_bv fun x3_1 ex3_1 => ?_
  refine a_istore_n (y := x3_1) (L' := [some (.ref 7), some (.ref 23), some (.ref 85), some (vi x3_1), none, none, none]) dX6_findStrengths_7 ex3_1 rfl rfl rfl ?_
  refine a_aload_n dX6_findStrengths_8 rfl ?_
  refine a_getR (c0 := 11) fl_X6_24 lyC_7 rfl dX6_findStrengths_9 (key := 450) rfl ?_
  refine a_iconst dX6_findStrengths_12 ?_
  refine a_putI fl_X6_70 cf_X9 rfl rfl lyC_11 rfl dX6_findStrengths_13 (key := 705) rfl fun σ2 => ?_
  refine a_iload_n dX6_findStrengths_16 rfl ?_
  refine a_if_eq dX6_findStrengths_17 rfl (fun _ => ?_) (fun _ => ?_)
  · exact a_vret dX6_findStrengths_31
  refine a_aload_n dX6_findStrengths_20 rfl ?_
  refine a_getL fl_X6_55 lyC_7 rfl dX6_findStrengths_21 (key := 451) rfl ?_
  refine a_callSi (as := [vl (gF σ2 451)]) mf_X6_83 (c_JL_bitCount F _ _) LYsame.rf dX6_findStrengths_24 rfl rfl rfl rfl rfl rfl (Or.inl rfl) fun r3 σ4 => ?_
  refine a_iload_n dX6_findStrengths_27 rfl ?_
  refine a_icmp_eq dX6_findStrengths_28 rfl (fun _ => ?_) (fun _ => ?_)
  · refine a_iconst dX6_findStrengths_32 ?_
    refine a_istore (L' := [some (.ref 7), some (.ref 23), some (.ref 85), some (vi x3_1), some (vi 0), none, none]) dX6_findStrengths_33 rfl rfl rfl rfl ?_
    refine a_iconst dX6_findStrengths_35 ?_
    refine a_istore (L' := [some (.ref 7), some (.ref 23), some (.ref 85), some (vi x3_1), some (vi 0), some (vi 0), none]) dX6_findStrengths_36 rfl rfl rfl rfl ?_
    exact cl_RuleFinder_findStrengths_lattice0_38 F F _ _ _ _
  exact a_vret dX6_findStrengths_31
def b_Rows_solve_steps_59 (F : Nat) (self : St → Int → Int → Int → Option (Int × St)) (σ : St) (x2 x5 x6 : Int) : Option (Int × St) := gd (rng x6 ∧ rng x5) (if x5 ≤ x6 then some (1, σ) else gd (inb x6 46) (gd (inb x6 46) (gd (inb x2 70) (bv (gA σ (103 + (Int.toNat x6)) (Int.toNat x2)) fun t7 => gd (inb (gA σ 87 (Int.toNat x6)) 46) (bs (sA σ 10 (Int.toNat (gA σ 87 (Int.toNat x6))) t7) fun σ8 => bv (x6 + 1) fun x6_9 => self σ8 x2 x5 x6_9)))))
def l_Rows_solve_steps_59 (F : Nat) : Nat → St → Int → Int → Int → Option (Int × St)
  | 0 => fun _ _ _ _ => none
  | n + 1 => fun σ x2 x5 x6 => b_Rows_solve_steps_59 F (l_Rows_solve_steps_59 F n) σ x2 x5 x6
def b_Rows_solve_steps_35 (F : Nat) (self : St → Int → Int → Int → Option (Int × St)) (σ : St) (x2 x5 x6 : Int) : Option (Int × St) := gd (rng x6 ∧ rng x2) (if x2 ≤ x6 then l_Rows_solve_steps_59 F F σ x2 x5 0 else gd (inb x6 46) (bs (sA σ 10 (Int.toNat x6) 0) fun σ10 => bv (x6 + 1) fun x6_11 => self σ10 x2 x5 x6_11))
def l_Rows_solve_steps_35 (F : Nat) : Nat → St → Int → Int → Int → Option (Int × St)
  | 0 => fun _ _ _ _ => none
  | n + 1 => fun σ x2 x5 x6 => b_Rows_solve_steps_35 F (l_Rows_solve_steps_35 F n) σ x2 x5 x6
def f_Rows_solve_steps (F : Nat) (σ : St) (x1 x2 x3 : Int) : Option (Int × St) := bnd (f_Rows_reduce F σ x1 (x2 + 1) x2 x3) fun r1 σ2 => bnd (f_Rows_rowWith F σ2 x2 r1 x1) fun r3 σ4 => gd (rng r3 ∧ rng (-1)) (if r3 = (-1) then bs (sF σ4 577 x2) fun σ5 => l_Rows_solve_steps_35 F F σ5 x2 r1 0 else some (0, σ4))
set_option maxRecDepth 100000 in
set_option maxHeartbeats 4000000 in
theorem cb_Rows_solve_steps_59 {K : KX} {x : Bool} (F : Nat) (self : St → Int → Int → Int → Option (Int × St)) (hself : ∀ σ x2 x5 x6, WA 4 1 1 cX5_solve RX5 7 (some .boolean) (LYC x false false) (LYC x false false) K 59 [some (.ref 85), none, some (vi x2), none, some (.ref 9), some (vi x5), some (vi x6)] [] σ (self σ x2 x5 x6)) (σ : St) (x2 x5 x6 : Int) : WA 4 1 1 cX5_solve RX5 7 (some .boolean) (LYC x false false) (LYC x false false) K 59 [some (.ref 85), none, some (vi x2), none, some (.ref 9), some (vi x5), some (vi x6)] [] σ (b_Rows_solve_steps_59 F self σ x2 x5 x6) := by
  unfold b_Rows_solve_steps_59
  refine a_iload dX5_solve_59 rfl ?_
  refine a_iload dX5_solve_61 rfl ?_
  refine a_icmp_ge dX5_solve_63 rfl (fun _ => ?_) (fun _ => ?_)
  · refine a_iconst dX5_solve_94 ?_
    exact a_zretc (by decide) dX5_solve_95
  refine a_aload dX5_solve_66 rfl ?_
  refine a_getR (c0 := 10) fl_X5_58 lyC_9 rfl dX5_solve_68 (key := 576) rfl ?_
  refine a_aload_n dX5_solve_71 rfl ?_
  refine a_getR (c0 := 87) fl_X5_16 lyC_85 rfl dX5_solve_72 (key := 5441) rfl ?_
  refine a_iload dX5_solve_75 rfl ?_
  refine a_iald lyC_87 rfl dX5_solve_77 ?_
  refine a_aload_n dX5_solve_78 rfl ?_
  refine a_getR (c0 := 86) fl_X5_13 lyC_85 rfl dX5_solve_79 (key := 5440) rfl ?_
  refine a_iload dX5_solve_82 rfl ?_
  refine a_aaldI lyC_86 rfl dX5_solve_84 fun hi6 => ?_
  refine a_iload_n dX5_solve_85 rfl ?_
  refine a_iald (lyC_r _ (ix_lt hi6)) rfl dX5_solve_86 ?_
  refine a_bvi fun t7 => ?_
  refine a_iast lyC_10 rfl dX5_solve_87 fun σ8 => ?_
  refine a_bv fun x6_9 ex6_9 => ?_
  refine a_iinc (y := x6_9) (L' := [some (.ref 85), none, some (vi x2), none, some (.ref 9), some (vi x5), some (vi x6_9)]) dX5_solve_88 rfl ex6_9 rfl rfl rfl ?_
  refine a_goto dX5_solve_91 rfl ?_
  exact hself _ _ _ _
set_option maxRecDepth 100000 in
set_option maxHeartbeats 4000000 in
theorem cl_Rows_solve_steps_59 {K : KX} {x : Bool} (F : Nat) : ∀ (n : Nat) (σ : St) (x2 x5 x6 : Int), WA 4 1 1 cX5_solve RX5 7 (some .boolean) (LYC x false false) (LYC x false false) K 59 [some (.ref 85), none, some (vi x2), none, some (.ref 9), some (vi x5), some (vi x6)] [] σ (l_Rows_solve_steps_59 F n σ x2 x5 x6)
  | 0, _, _, _, _ => a_none
  | n + 1, σ, x2, x5, x6 => cb_Rows_solve_steps_59 F _ (cl_Rows_solve_steps_59 F n) σ x2 x5 x6
set_option maxRecDepth 100000 in
set_option maxHeartbeats 4000000 in
theorem cb_Rows_solve_steps_35 {K : KX} {x : Bool} (F : Nat) (self : St → Int → Int → Int → Option (Int × St)) (hself : ∀ σ x2 x5 x6, WA 4 1 1 cX5_solve RX5 7 (some .boolean) (LYC x false false) (LYC x false false) K 35 [some (.ref 85), none, some (vi x2), none, some (.ref 9), some (vi x5), some (vi x6)] [] σ (self σ x2 x5 x6)) (σ : St) (x2 x5 x6 : Int) : WA 4 1 1 cX5_solve RX5 7 (some .boolean) (LYC x false false) (LYC x false false) K 35 [some (.ref 85), none, some (vi x2), none, some (.ref 9), some (vi x5), some (vi x6)] [] σ (b_Rows_solve_steps_35 F self σ x2 x5 x6) := by
  unfold b_Rows_solve_steps_35
  refine a_iload dX5_solve_35 rfl ?_
  refine a_iload_n dX5_solve_37 rfl ?_
  refine a_icmp_ge dX5_solve_38 rfl (fun _ => ?_) (fun _ => ?_)
  · refine a_iconst dX5_solve_56 ?_
    refine a_istore (L' := [some (.ref 85), none, some (vi x2), none, some (.ref 9), some (vi x5), some (vi 0)]) dX5_solve_57 rfl rfl rfl rfl ?_
    exact cl_Rows_solve_steps_59 F F _ _ _ _
  refine a_aload dX5_solve_41 rfl ?_
  refine a_getR (c0 := 10) fl_X5_58 lyC_9 rfl dX5_solve_43 (key := 576) rfl ?_
  refine a_iload dX5_solve_46 rfl ?_
  refine a_iconst dX5_solve_48 ?_
  refine a_iast lyC_10 rfl dX5_solve_49 fun σ10 => ?_
  refine a_bv fun x6_11 ex6_11 => ?_
  refine a_iinc (y := x6_11) (L' := [some (.ref 85), none, some (vi x2), none, some (.ref 9), some (vi x5), some (vi x6_11)]) dX5_solve_50 rfl ex6_11 rfl rfl rfl ?_
  refine a_goto dX5_solve_53 rfl ?_
  exact hself _ _ _ _
set_option maxRecDepth 100000 in
set_option maxHeartbeats 4000000 in
theorem cl_Rows_solve_steps_35 {K : KX} {x : Bool} (F : Nat) : ∀ (n : Nat) (σ : St) (x2 x5 x6 : Int), WA 4 1 1 cX5_solve RX5 7 (some .boolean) (LYC x false false) (LYC x false false) K 35 [some (.ref 85), none, some (vi x2), none, some (.ref 9), some (vi x5), some (vi x6)] [] σ (l_Rows_solve_steps_35 F n σ x2 x5 x6)
  | 0, _, _, _, _ => a_none
  | n + 1, σ, x2, x5, x6 => cb_Rows_solve_steps_35 F _ (cl_Rows_solve_steps_35 F n) σ x2 x5 x6
set_option maxRecDepth 100000 in
set_option maxHeartbeats 4000000 in
theorem c_Rows_solve_steps {x : Bool} (F : Nat) (σ : St) (x1 x2 x3 : Int) : Ct 4 1 1 yX5_solve cX5_solve 7 (some .boolean) (LYC x false false) (LYC x false false) [.ref 85, vi x1, vi x2, vi x3, .ref 9] σ (f_Rows_solve_steps F σ x1 x2 x3) := by
  unfold f_Rows_solve_steps
  refine Ct_of (d := 4) (kp := 1) (kd := 1) (own := RX5) (nL := 7) (ret := (some .boolean)) (LY := (LYC x false false)) (LYe := (LYC x false false)) (L := [some (.ref 85), some (vi x1), some (vi x2), some (vi x3), some (.ref 9), none, none]) rfl (by decide +kernel) rfl rfl mf_X10_309.2.2.2.1 rfl fun K => ?_
  refine a_aload_n dX5_solve_0 rfl ?_
  refine a_iload_n dX5_solve_1 rfl ?_
  refine a_iload_n dX5_solve_2 rfl ?_
  refine a_iconst dX5_solve_3 ?_
  refine a_iadd dX5_solve_4 ?_
  refine a_iload_n dX5_solve_5 rfl ?_
  refine a_iload_n dX5_solve_6 rfl ?_
  refine a_callVi (as := [vi x1, vi (x2 + 1), vi x2, vi x3]) mf_X5_49 lyC_85 rfl (c_Rows_reduce F _ _ _ _ _) LYsame.rf dX5_solve_7 rfl rfl rfl rfl rfl rfl (Or.inr rfl) fun r1 σ2 => ?_
  refine a_istore (L' := [some (.ref 85), some (vi x1), some (vi x2), some (vi x3), some (.ref 9), some (vi r1), none]) dX5_solve_10 rfl rfl rfl rfl ?_
  refine a_aload_n dX5_solve_12 rfl ?_
  refine a_iload_n dX5_solve_13 rfl ?_
  refine a_iload dX5_solve_14 rfl ?_
  refine a_iload_n dX5_solve_16 rfl ?_
  refine a_callVi (as := [vi x2, vi r1, vi x1]) mf_X5_20 lyC_85 rfl (c_Rows_rowWith F _ _ _ _) LYsame.rf dX5_solve_17 rfl rfl rfl rfl rfl rfl (Or.inl rfl) fun r3 σ4 => ?_
  refine a_iconst dX5_solve_20 ?_
  refine a_icmp_eq dX5_solve_21 rfl (fun _ => ?_) (fun _ => ?_)
  · refine a_aload dX5_solve_26 rfl ?_
    refine a_iload_n dX5_solve_28 rfl ?_
    refine a_putI fl_X5_53 cf_X9 rfl rfl lyC_9 rfl dX5_solve_29 (key := 577) rfl fun σ5 => ?_
    refine a_iconst dX5_solve_32 ?_
    refine a_istore (L' := [some (.ref 85), some (vi x1), some (vi x2), some (vi x3), some (.ref 9), some (vi r1), some (vi 0)]) dX5_solve_33 rfl rfl rfl rfl ?_
    exact a_L (lsub_get (A := [some (.ref 85), none, some (vi x2), none, some (.ref 9), some (vi r1), some (vi 0)]) ⟨rfl, ⟨rfl, ⟨rfl, ⟨rfl, ⟨rfl, trivial⟩⟩⟩⟩⟩) (cl_Rows_solve_steps_35 F F _ _ _ _)
  refine a_iconst dX5_solve_24 ?_
  exact a_zretc (by decide) dX5_solve_25
def b_RuleFinder_fits_12 (F : Nat) (k3 : St → Int → Int → Int → Int → Option (Int × St)) (self : St → Int → Int → Int → Int → Int → Option (Int × St)) (σ : St) (x1 x2 x3 x5 x6 : Int) : Option (Int × St) := gd (rng x6 ∧ rng x1) (if x1 < x6 then gd (inb (x5 - x1) 46) (gd (inb x5 46) (gd (inb x1 70) (bs (sA σ (103 + (Int.toNat (x5 - x1))) (Int.toNat x1) (gA σ 8 (Int.toNat x5))) fun σ4 => bv (x5 + 1) fun x5_5 => k3 σ4 x1 x2 x3 x5_5))) else gd (inb (x5 - x1) 46) (gd (inb (x5 - x6) 46) (gd (inb (x6 - 1) 70) (bs (sA σ (103 + (Int.toNat (x5 - x1))) (Int.toNat (x6 - 1)) (gA σ 8 (Int.toNat (x5 - x6)))) fun σ7 => bv (x6 + 1) fun x6_8 => self σ7 x1 x2 x3 x5 x6_8))))
def l_RuleFinder_fits_12 (F : Nat) (k3 : St → Int → Int → Int → Int → Option (Int × St)) : Nat → St → Int → Int → Int → Int → Int → Option (Int × St)
  | 0 => fun _ _ _ _ _ _ => none
  | n + 1 => fun σ x1 x2 x3 x5 x6 => b_RuleFinder_fits_12 F k3 (l_RuleFinder_fits_12 F k3 n) σ x1 x2 x3 x5 x6
def b_RuleFinder_fits_3 (F : Nat) (self : St → Int → Int → Int → Int → Option (Int × St)) (σ : St) (x1 x2 x3 x5 : Int) : Option (Int × St) := gd (rng x5 ∧ rng x2) (if x2 ≤ x5 then bnd (f_Rows_solve_steps F σ (x2 - x1) x1 x3) fun r1 σ2 => gd (isb r1) (some (r1, σ2)) else l_RuleFinder_fits_12 F self F σ x1 x2 x3 x5 1)
def l_RuleFinder_fits_3 (F : Nat) : Nat → St → Int → Int → Int → Int → Option (Int × St)
  | 0 => fun _ _ _ _ _ => none
  | n + 1 => fun σ x1 x2 x3 x5 => b_RuleFinder_fits_3 F (l_RuleFinder_fits_3 F n) σ x1 x2 x3 x5
def f_RuleFinder_fits (F : Nat) (σ : St) (x1 x2 x3 : Int) : Option (Int × St) := l_RuleFinder_fits_3 F F σ x1 x2 x3 x1
set_option maxRecDepth 100000 in
set_option maxHeartbeats 4000000 in
theorem cb_RuleFinder_fits_12 {K : KX} {x : Bool} (F : Nat) (k3 : St → Int → Int → Int → Int → Option (Int × St)) (h3 : ∀ σ x1 x2 x3 x5, WA 5 1 1 cX6_fits RX6 7 (some .boolean) (LYC x false false) (LYC x false false) K 3 [some (.ref 7), some (vi x1), some (vi x2), some (vi x3), some (.ref 85), some (vi x5), none] [] σ (k3 σ x1 x2 x3 x5)) (self : St → Int → Int → Int → Int → Int → Option (Int × St)) (hself : ∀ σ x1 x2 x3 x5 x6, WA 5 1 1 cX6_fits RX6 7 (some .boolean) (LYC x false false) (LYC x false false) K 12 [some (.ref 7), some (vi x1), some (vi x2), some (vi x3), some (.ref 85), some (vi x5), some (vi x6)] [] σ (self σ x1 x2 x3 x5 x6)) (σ : St) (x1 x2 x3 x5 x6 : Int) : WA 5 1 1 cX6_fits RX6 7 (some .boolean) (LYC x false false) (LYC x false false) K 12 [some (.ref 7), some (vi x1), some (vi x2), some (vi x3), some (.ref 85), some (vi x5), some (vi x6)] [] σ (b_RuleFinder_fits_12 F k3 self σ x1 x2 x3 x5 x6) := by
  unfold b_RuleFinder_fits_12
  refine a_iload dX6_fits_12 rfl ?_
  refine a_iload_n dX6_fits_14 rfl ?_
  refine a_icmp_gt dX6_fits_15 rfl (fun _ => ?_) (fun _ => ?_)
  · refine a_aload dX6_fits_49 rfl ?_
    refine a_getR (c0 := 86) fl_X6_45 lyC_85 rfl dX6_fits_51 (key := 5440) rfl ?_
    refine a_iload dX6_fits_54 rfl ?_
    refine a_iload_n dX6_fits_56 rfl ?_
    refine a_isub dX6_fits_57 ?_
    refine a_aaldI lyC_86 rfl dX6_fits_58 fun hi3 => ?_
    refine a_iload_n dX6_fits_59 rfl ?_
    refine a_aload_n dX6_fits_60 rfl ?_
    refine a_getR (c0 := 8) fl_X6_9 lyC_7 rfl dX6_fits_61 (key := 448) rfl ?_
    refine a_iload dX6_fits_64 rfl ?_
    refine a_iald lyC_8 rfl dX6_fits_66 ?_
    refine a_iast (lyC_r _ (ix_lt hi3)) rfl dX6_fits_67 fun σ4 => ?_
    refine a_bv fun x5_5 ex5_5 => ?_
    refine a_iinc (y := x5_5) (L' := [some (.ref 7), some (vi x1), some (vi x2), some (vi x3), some (.ref 85), some (vi x5_5), some (vi x6)]) dX6_fits_68 rfl ex5_5 rfl rfl rfl ?_
    refine a_goto dX6_fits_71 rfl ?_
    exact a_L (lsub_get (A := [some (.ref 7), some (vi x1), some (vi x2), some (vi x3), some (.ref 85), some (vi x5_5), none]) ⟨rfl, ⟨rfl, ⟨rfl, ⟨rfl, ⟨rfl, ⟨rfl, trivial⟩⟩⟩⟩⟩⟩) (h3 _ _ _ _ _)
  refine a_aload dX6_fits_18 rfl ?_
  refine a_getR (c0 := 86) fl_X6_45 lyC_85 rfl dX6_fits_20 (key := 5440) rfl ?_
  refine a_iload dX6_fits_23 rfl ?_
  refine a_iload_n dX6_fits_25 rfl ?_
  refine a_isub dX6_fits_26 ?_
  refine a_aaldI lyC_86 rfl dX6_fits_27 fun hi6 => ?_
  refine a_iload dX6_fits_28 rfl ?_
  refine a_iconst dX6_fits_30 ?_
  refine a_isub dX6_fits_31 ?_
  refine a_aload_n dX6_fits_32 rfl ?_
  refine a_getR (c0 := 8) fl_X6_9 lyC_7 rfl dX6_fits_33 (key := 448) rfl ?_
  refine a_iload dX6_fits_36 rfl ?_
  refine a_iload dX6_fits_38 rfl ?_
  refine a_isub dX6_fits_40 ?_
  refine a_iald lyC_8 rfl dX6_fits_41 ?_
  refine a_iast (lyC_r _ (ix_lt hi6)) rfl dX6_fits_42 fun σ7 => ?_
  refine a_bv fun x6_8 ex6_8 => ?_
  refine a_iinc (y := x6_8) (L' := [some (.ref 7), some (vi x1), some (vi x2), some (vi x3), some (.ref 85), some (vi x5), some (vi x6_8)]) dX6_fits_43 rfl ex6_8 rfl rfl rfl ?_
  refine a_goto dX6_fits_46 rfl ?_
  exact hself _ _ _ _ _ _
set_option maxRecDepth 100000 in
set_option maxHeartbeats 4000000 in
theorem cl_RuleFinder_fits_12 {K : KX} {x : Bool} (F : Nat) (k3 : St → Int → Int → Int → Int → Option (Int × St)) (h3 : ∀ σ x1 x2 x3 x5, WA 5 1 1 cX6_fits RX6 7 (some .boolean) (LYC x false false) (LYC x false false) K 3 [some (.ref 7), some (vi x1), some (vi x2), some (vi x3), some (.ref 85), some (vi x5), none] [] σ (k3 σ x1 x2 x3 x5)) : ∀ (n : Nat) (σ : St) (x1 x2 x3 x5 x6 : Int), WA 5 1 1 cX6_fits RX6 7 (some .boolean) (LYC x false false) (LYC x false false) K 12 [some (.ref 7), some (vi x1), some (vi x2), some (vi x3), some (.ref 85), some (vi x5), some (vi x6)] [] σ (l_RuleFinder_fits_12 F k3 n σ x1 x2 x3 x5 x6)
  | 0, _, _, _, _, _, _ => a_none
  | n + 1, σ, x1, x2, x3, x5, x6 => cb_RuleFinder_fits_12 F k3 h3 _ (cl_RuleFinder_fits_12 F k3 h3 n) σ x1 x2 x3 x5 x6
set_option maxRecDepth 100000 in
set_option maxHeartbeats 4000000 in
theorem cb_RuleFinder_fits_3 {K : KX} {x : Bool} (F : Nat) (self : St → Int → Int → Int → Int → Option (Int × St)) (hself : ∀ σ x1 x2 x3 x5, WA 5 1 1 cX6_fits RX6 7 (some .boolean) (LYC x false false) (LYC x false false) K 3 [some (.ref 7), some (vi x1), some (vi x2), some (vi x3), some (.ref 85), some (vi x5), none] [] σ (self σ x1 x2 x3 x5)) (σ : St) (x1 x2 x3 x5 : Int) : WA 5 1 1 cX6_fits RX6 7 (some .boolean) (LYC x false false) (LYC x false false) K 3 [some (.ref 7), some (vi x1), some (vi x2), some (vi x3), some (.ref 85), some (vi x5), none] [] σ (b_RuleFinder_fits_3 F self σ x1 x2 x3 x5) := by
  unfold b_RuleFinder_fits_3
  refine a_iload dX6_fits_3 rfl ?_
  refine a_iload_n dX6_fits_5 rfl ?_
  refine a_icmp_ge dX6_fits_6 rfl (fun _ => ?_) (fun _ => ?_)
  · refine a_aload dX6_fits_74 rfl ?_
    refine a_iload_n dX6_fits_76 rfl ?_
    refine a_iload_n dX6_fits_77 rfl ?_
    refine a_isub dX6_fits_78 ?_
    refine a_iload_n dX6_fits_79 rfl ?_
    refine a_iload_n dX6_fits_80 rfl ?_
    refine a_aload_n dX6_fits_81 rfl ?_
    refine a_getR (c0 := 9) fl_X6_20 lyC_7 rfl dX6_fits_82 (key := 449) rfl ?_
    refine a_callVi (as := [vi (x2 - x1), vi x1, vi x3, .ref 9]) mf_X6_51 lyC_85 rfl (c_Rows_solve_steps F _ _ _ _) LYsame.rf dX6_fits_85 rfl rfl rfl rfl rfl rfl (Or.inr rfl) fun r1 σ2 => ?_
    exact a_zret dX6_fits_88
  refine a_iconst dX6_fits_9 ?_
  refine a_istore (L' := [some (.ref 7), some (vi x1), some (vi x2), some (vi x3), some (.ref 85), some (vi x5), some (vi 1)]) dX6_fits_10 rfl rfl rfl rfl ?_
  exact cl_RuleFinder_fits_12 F _ hself F _ _ _ _ _ _
set_option maxRecDepth 100000 in
set_option maxHeartbeats 4000000 in
theorem cl_RuleFinder_fits_3 {K : KX} {x : Bool} (F : Nat) : ∀ (n : Nat) (σ : St) (x1 x2 x3 x5 : Int), WA 5 1 1 cX6_fits RX6 7 (some .boolean) (LYC x false false) (LYC x false false) K 3 [some (.ref 7), some (vi x1), some (vi x2), some (vi x3), some (.ref 85), some (vi x5), none] [] σ (l_RuleFinder_fits_3 F n σ x1 x2 x3 x5)
  | 0, _, _, _, _, _ => a_none
  | n + 1, σ, x1, x2, x3, x5 => cb_RuleFinder_fits_3 F _ (cl_RuleFinder_fits_3 F n) σ x1 x2 x3 x5
set_option maxRecDepth 100000 in
set_option maxHeartbeats 4000000 in
theorem c_RuleFinder_fits {x : Bool} (F : Nat) (σ : St) (x1 x2 x3 : Int) : Ct 5 1 1 yX6_fits cX6_fits 7 (some .boolean) (LYC x false false) (LYC x false false) [.ref 7, vi x1, vi x2, vi x3, .ref 85] σ (f_RuleFinder_fits F σ x1 x2 x3) := by
  unfold f_RuleFinder_fits
  refine Ct_of (d := 5) (kp := 1) (kd := 1) (own := RX6) (nL := 7) (ret := (some .boolean)) (LY := (LYC x false false)) (LYe := (LYC x false false)) (L := [some (.ref 7), some (vi x1), some (vi x2), some (vi x3), some (.ref 85), none, none]) rfl (by decide +kernel) rfl rfl mf_X6_33.2.2.2.1 rfl fun K => ?_
  refine a_iload_n dX6_fits_0 rfl ?_
  refine a_istore (L' := [some (.ref 7), some (vi x1), some (vi x2), some (vi x3), some (.ref 85), some (vi x1), none]) dX6_fits_1 rfl rfl rfl rfl ?_
  exact cl_RuleFinder_fits_3 F F _ _ _ _ _
def b_RuleFinder_find_lattice0_3 (F : Nat) (self : St → Int → Int → Option (Int × St)) (σ : St) (x1 x4 : Int) : Option (Int × St) := gd (rng x4 ∧ rng x1) (if x1 < x4 then bnd (f_RuleFinder_findRoots_lattice0 F σ) fun r1 σ2 => bnd (f_RuleFinder_findStrengths_lattice0 F σ2) fun r3 σ4 => some (0, σ4) else bnd (f_RuleFinder_fits F σ x4 x1 (gF σ 1473)) fun r5 σ6 => gd (rng r5) (if r5 = 0 then bv (x4 + 1) fun x4_7 => self σ6 x1 x4_7 else bnd (f_RuleFinder_findRoots_lattice0 F σ6) fun r8 σ9 => bnd (f_RuleFinder_findStrengths_lattice0 F σ9) fun r10 σ11 => some (0, σ11)))
def l_RuleFinder_find_lattice0_3 (F : Nat) : Nat → St → Int → Int → Option (Int × St)
  | 0 => fun _ _ _ => none
  | n + 1 => fun σ x1 x4 => b_RuleFinder_find_lattice0_3 F (l_RuleFinder_find_lattice0_3 F n) σ x1 x4
def f_RuleFinder_find_lattice0 (F : Nat) (σ : St) (x1 : Int) : Option (Int × St) := l_RuleFinder_find_lattice0_3 F F σ x1 0
set_option maxRecDepth 100000 in
set_option maxHeartbeats 4000000 in
theorem cb_RuleFinder_find_lattice0_3 {K : KX} {x : Bool} (F : Nat) (self : St → Int → Int → Option (Int × St)) (hself : ∀ σ x1 x4, WA 6 1 0 cX6_find RX6 5 none (LYC x false false) (LYC x false false) K 3 [some (.ref 7), some (vi x1), some (.ref 23), some (.ref 85), some (vi x4)] [] σ (self σ x1 x4)) (σ : St) (x1 x4 : Int) : WA 6 1 0 cX6_find RX6 5 none (LYC x false false) (LYC x false false) K 3 [some (.ref 7), some (vi x1), some (.ref 23), some (.ref 85), some (vi x4)] [] σ (b_RuleFinder_find_lattice0_3 F self σ x1 x4) := by
  unfold b_RuleFinder_find_lattice0_3
  refine a_iload dX6_find_3 rfl ?_
  refine a_iload_n dX6_find_5 rfl ?_
  refine a_icmp_gt dX6_find_6 rfl (fun _ => ?_) (fun _ => ?_)
  · refine a_aload_n dX6_find_33 rfl ?_
    refine a_aload_n dX6_find_34 rfl ?_
    refine a_callVv (as := [.ref 23]) mf_X6_37 lyC_7 rfl (c_RuleFinder_findRoots_lattice0 F _) LYsame.rf dX6_find_35 rfl rfl rfl rfl rfl rfl (Or.inl rfl) fun r1 σ2 => ?_
    refine a_aload_n dX6_find_38 rfl ?_
    refine a_aload_n dX6_find_39 rfl ?_
    refine a_aload_n dX6_find_40 rfl ?_
    refine a_callVv (as := [.ref 23, .ref 85]) mf_X6_41 lyC_7 rfl (c_RuleFinder_findStrengths_lattice0 F _) LYsame.rf dX6_find_41 rfl rfl rfl rfl rfl rfl (Or.inr rfl) fun r3 σ4 => ?_
    exact a_vret dX6_find_44
  refine a_aload_n dX6_find_9 rfl ?_
  refine a_iload dX6_find_10 rfl ?_
  refine a_iload_n dX6_find_12 rfl ?_
  refine a_aload_n dX6_find_13 rfl ?_
  refine a_getI fl_X6_27 lyC_23 rfl dX6_find_14 (key := 1473) rfl ?_
  refine a_aload_n dX6_find_17 rfl ?_
  refine a_callVi (as := [vi x4, vi x1, vi (gF σ 1473), .ref 85]) mf_X6_33 lyC_7 rfl (c_RuleFinder_fits F _ _ _ _) LYsame.rf dX6_find_18 rfl rfl rfl rfl rfl rfl (Or.inr rfl) fun r5 σ6 => ?_
  refine a_if_eq dX6_find_21 rfl (fun _ => ?_) (fun _ => ?_)
  · refine a_bv fun x4_7 ex4_7 => ?_
    refine a_iinc (y := x4_7) (L' := [some (.ref 7), some (vi x1), some (.ref 23), some (.ref 85), some (vi x4_7)]) dX6_find_27 rfl ex4_7 rfl rfl rfl ?_
    refine a_goto dX6_find_30 rfl ?_
    exact hself _ _ _
  refine a_goto dX6_find_24 rfl ?_
  refine a_aload_n dX6_find_33 rfl ?_
  refine a_aload_n dX6_find_34 rfl ?_
  refine a_callVv (as := [.ref 23]) mf_X6_37 lyC_7 rfl (c_RuleFinder_findRoots_lattice0 F _) LYsame.rf dX6_find_35 rfl rfl rfl rfl rfl rfl (Or.inl rfl) fun r8 σ9 => ?_
  refine a_aload_n dX6_find_38 rfl ?_
  refine a_aload_n dX6_find_39 rfl ?_
  refine a_aload_n dX6_find_40 rfl ?_
  refine a_callVv (as := [.ref 23, .ref 85]) mf_X6_41 lyC_7 rfl (c_RuleFinder_findStrengths_lattice0 F _) LYsame.rf dX6_find_41 rfl rfl rfl rfl rfl rfl (Or.inr rfl) fun r10 σ11 => ?_
  exact a_vret dX6_find_44
set_option maxRecDepth 100000 in
set_option maxHeartbeats 4000000 in
theorem cl_RuleFinder_find_lattice0_3 {K : KX} {x : Bool} (F : Nat) : ∀ (n : Nat) (σ : St) (x1 x4 : Int), WA 6 1 0 cX6_find RX6 5 none (LYC x false false) (LYC x false false) K 3 [some (.ref 7), some (vi x1), some (.ref 23), some (.ref 85), some (vi x4)] [] σ (l_RuleFinder_find_lattice0_3 F n σ x1 x4)
  | 0, _, _, _ => a_none
  | n + 1, σ, x1, x4 => cb_RuleFinder_find_lattice0_3 F _ (cl_RuleFinder_find_lattice0_3 F n) σ x1 x4
set_option maxRecDepth 100000 in
set_option maxHeartbeats 4000000 in
theorem c_RuleFinder_find_lattice0 {x : Bool} (F : Nat) (σ : St) (x1 : Int) : Ct 6 1 0 yX6_find cX6_find 5 none (LYC x false false) (LYC x false false) [.ref 7, vi x1, .ref 23, .ref 85] σ (f_RuleFinder_find_lattice0 F σ x1) := by
  unfold f_RuleFinder_find_lattice0
  refine Ct_of (d := 6) (kp := 1) (kd := 0) (own := RX6) (nL := 5) (ret := none) (LY := (LYC x false false)) (LYe := (LYC x false false)) (L := [some (.ref 7), some (vi x1), some (.ref 23), some (.ref 85), none]) rfl (by decide +kernel) rfl rfl mf_X10_224.2.2.2.1 rfl fun K => ?_
  refine a_iconst dX6_find_0 ?_
  refine a_istore (L' := [some (.ref 7), some (vi x1), some (.ref 23), some (.ref 85), some (vi 0)]) dX6_find_1 rfl rfl rfl rfl ?_
  exact cl_RuleFinder_find_lattice0_3 F F _ _ _
def b_W_rule_63 (F : Nat) (self : St → Int → Int → Int → Option (Int × St)) (σ : St) (x1 x2 x3 : Int) : Option (Int × St) := gd (rng x3 ∧ rng x2) (if x2 ≤ x3 then bnd (f_RuleFinder_find_lattice0 F σ x2) fun r4 σ5 => some ((gF σ5 577), σ5) else gd (rng x3 ∧ rng 46) (if (46 : Int) ≤ x3 then bnd (f_RuleFinder_find_lattice0 F σ x2) fun r6 σ7 => some ((gF σ7 577), σ7) else gd (rng x1) (if x1 = 0 then bnd (f_Scene_readingOf_scene0 F σ x3) fun r12 σ13 => gd (inb x3 46) (bs (sA σ13 8 (Int.toNat x3) r12) fun σ14 => bv (x3 + 1) fun x3_15 => self σ14 x1 x2 x3_15) else bnd (f_Scene_lagOf_scene0 F σ x3) fun r8 σ9 => gd (inb x3 46) (bs (sA σ9 8 (Int.toNat x3) r8) fun σ10 => bv (x3 + 1) fun x3_11 => self σ10 x1 x2 x3_11))))
def l_W_rule_63 (F : Nat) : Nat → St → Int → Int → Int → Option (Int × St)
  | 0 => fun _ _ _ _ => none
  | n + 1 => fun σ x1 x2 x3 => b_W_rule_63 F (l_W_rule_63 F n) σ x1 x2 x3
def f_W_rule (F : Nat) (σ : St) (x1 : Int) : Option (Int × St) := gd (rng (gF σ 5059)) (if (gF σ 5059) = 0 then some ((-1), σ) else gd (rng x1) (if x1 < 0 then some ((-1), σ) else gd (rng x1 ∧ rng 1) (if x1 ≤ 1 then gd (rng x1) (if x1 = 0 then bnd (f_Scene_standsEven_scene0 F σ) fun r17 σ18 => gd (rng r17) (if r17 = 0 then some ((-1), σ18) else gd (rng x1) (if x1 = 0 then bv (gF σ18 5059) fun x2_22 => l_W_rule_63 F F σ18 x1 x2_22 0 else bnd (f_Scene_longestRun_scene0 F σ18) fun r19 σ20 => bv (r19 + 1) fun x2_21 => l_W_rule_63 F F σ20 x1 x2_21 0)) else gd (rng x1) (if x1 = 0 then bv (gF σ 5059) fun x2_16 => l_W_rule_63 F F σ x1 x2_16 0 else bnd (f_Scene_longestRun_scene0 F σ) fun r1 σ2 => bv (r1 + 1) fun x2_3 => l_W_rule_63 F F σ2 x1 x2_3 0)) else some ((-1), σ))))
set_option maxRecDepth 100000 in
set_option maxHeartbeats 4000000 in
theorem cb_W_rule_63 {K : KX} {x : Bool} (F : Nat) (self : St → Int → Int → Int → Option (Int × St)) (hself : ∀ σ x1 x2 x3, WA 7 1 1 cX10_rule RX10 4 (some .int) (LYC x false false) (LYC x false false) K 63 [some (.ref 0), some (vi x1), some (vi x2), some (vi x3)] [] σ (self σ x1 x2 x3)) (σ : St) (x1 x2 x3 : Int) : WA 7 1 1 cX10_rule RX10 4 (some .int) (LYC x false false) (LYC x false false) K 63 [some (.ref 0), some (vi x1), some (vi x2), some (vi x3)] [] σ (b_W_rule_63 F self σ x1 x2 x3) := by
  unfold b_W_rule_63
  refine a_iload_n dX10_rule_63 rfl ?_
  refine a_iload_n dX10_rule_64 rfl ?_
  refine a_icmp_ge dX10_rule_65 rfl (fun _ => ?_) (fun _ => ?_)
  · refine a_aload_n dX10_rule_112 rfl ?_
    refine a_getR (c0 := 7) fl_X10_51 lyC_0 rfl dX10_rule_113 (key := 7) rfl ?_
    refine a_iload_n dX10_rule_116 rfl ?_
    refine a_aload_n dX10_rule_117 rfl ?_
    refine a_getR (c0 := 79) fl_X10_26 lyC_0 rfl dX10_rule_118 (key := 2) rfl ?_
    refine a_getR (c0 := 23) fl_X10_153 lyC_79 rfl dX10_rule_121 (key := 5056) rfl ?_
    refine a_aload_n dX10_rule_124 rfl ?_
    refine a_getR (c0 := 85) fl_X10_44 lyC_0 rfl dX10_rule_125 (key := 6) rfl ?_
    refine a_callVv (as := [vi x2, .ref 23, .ref 85]) mf_X10_224 lyC_7 rfl (c_RuleFinder_find_lattice0 F _ _) LYsame.rf dX10_rule_128 rfl rfl rfl rfl rfl rfl (Or.inr rfl) fun r4 σ5 => ?_
    refine a_aload_n dX10_rule_131 rfl ?_
    refine a_getR (c0 := 7) fl_X10_51 lyC_0 rfl dX10_rule_132 (key := 7) rfl ?_
    refine a_getR (c0 := 9) fl_X10_228 lyC_7 rfl dX10_rule_135 (key := 449) rfl ?_
    refine a_getI fl_X10_231 lyC_9 rfl dX10_rule_138 (key := 577) rfl ?_
    exact a_iret dX10_rule_141
  refine a_iload_n dX10_rule_68 rfl ?_
  refine a_bipush dX10_rule_69 bi_46 ?_
  refine a_icmp_ge dX10_rule_71 rfl (fun _ => ?_) (fun _ => ?_)
  · refine a_aload_n dX10_rule_112 rfl ?_
    refine a_getR (c0 := 7) fl_X10_51 lyC_0 rfl dX10_rule_113 (key := 7) rfl ?_
    refine a_iload_n dX10_rule_116 rfl ?_
    refine a_aload_n dX10_rule_117 rfl ?_
    refine a_getR (c0 := 79) fl_X10_26 lyC_0 rfl dX10_rule_118 (key := 2) rfl ?_
    refine a_getR (c0 := 23) fl_X10_153 lyC_79 rfl dX10_rule_121 (key := 5056) rfl ?_
    refine a_aload_n dX10_rule_124 rfl ?_
    refine a_getR (c0 := 85) fl_X10_44 lyC_0 rfl dX10_rule_125 (key := 6) rfl ?_
    refine a_callVv (as := [vi x2, .ref 23, .ref 85]) mf_X10_224 lyC_7 rfl (c_RuleFinder_find_lattice0 F _ _) LYsame.rf dX10_rule_128 rfl rfl rfl rfl rfl rfl (Or.inr rfl) fun r6 σ7 => ?_
    refine a_aload_n dX10_rule_131 rfl ?_
    refine a_getR (c0 := 7) fl_X10_51 lyC_0 rfl dX10_rule_132 (key := 7) rfl ?_
    refine a_getR (c0 := 9) fl_X10_228 lyC_7 rfl dX10_rule_135 (key := 449) rfl ?_
    refine a_getI fl_X10_231 lyC_9 rfl dX10_rule_138 (key := 577) rfl ?_
    exact a_iret dX10_rule_141
  refine a_aload_n dX10_rule_74 rfl ?_
  refine a_getR (c0 := 7) fl_X10_51 lyC_0 rfl dX10_rule_75 (key := 7) rfl ?_
  refine a_getR (c0 := 8) fl_X10_221 lyC_7 rfl dX10_rule_78 (key := 448) rfl ?_
  refine a_iload_n dX10_rule_81 rfl ?_
  refine a_iload_n dX10_rule_82 rfl ?_
  refine a_if_ne dX10_rule_83 rfl (fun _ => ?_) (fun _ => ?_)
  · refine a_aload_n dX10_rule_97 rfl ?_
    refine a_getR (c0 := 79) fl_X10_26 lyC_0 rfl dX10_rule_98 (key := 2) rfl ?_
    refine a_iload_n dX10_rule_101 rfl ?_
    refine a_callVi (as := [vi x3]) mf_X10_215 lyC_79 rfl (c_Scene_lagOf_scene0 F _ _) LYsame.rf dX10_rule_102 rfl rfl rfl rfl rfl rfl (Or.inl rfl) fun r8 σ9 => ?_
    refine a_iast lyC_8 rfl dX10_rule_105 fun σ10 => ?_
    refine a_bv fun x3_11 ex3_11 => ?_
    refine a_iinc (y := x3_11) (L' := [some (.ref 0), some (vi x1), some (vi x2), some (vi x3_11)]) dX10_rule_106 rfl ex3_11 rfl rfl rfl ?_
    refine a_goto dX10_rule_109 rfl ?_
    exact hself _ _ _ _
  refine a_aload_n dX10_rule_86 rfl ?_
  refine a_getR (c0 := 79) fl_X10_26 lyC_0 rfl dX10_rule_87 (key := 2) rfl ?_
  refine a_iload_n dX10_rule_90 rfl ?_
  refine a_callVi (as := [vi x3]) mf_X10_166 lyC_79 rfl (c_Scene_readingOf_scene0 F _ _) LYsame.rf dX10_rule_91 rfl rfl rfl rfl rfl rfl (Or.inl rfl) fun r12 σ13 => ?_
  refine a_goto dX10_rule_94 rfl ?_
  refine a_iast lyC_8 rfl dX10_rule_105 fun σ14 => ?_
  refine a_bv fun x3_15 ex3_15 => ?_
  refine a_iinc (y := x3_15) (L' := [some (.ref 0), some (vi x1), some (vi x2), some (vi x3_15)]) dX10_rule_106 rfl ex3_15 rfl rfl rfl ?_
  refine a_goto dX10_rule_109 rfl ?_
  exact hself _ _ _ _
set_option maxRecDepth 100000 in
set_option maxHeartbeats 4000000 in
theorem cl_W_rule_63 {K : KX} {x : Bool} (F : Nat) : ∀ (n : Nat) (σ : St) (x1 x2 x3 : Int), WA 7 1 1 cX10_rule RX10 4 (some .int) (LYC x false false) (LYC x false false) K 63 [some (.ref 0), some (vi x1), some (vi x2), some (vi x3)] [] σ (l_W_rule_63 F n σ x1 x2 x3)
  | 0, _, _, _, _ => a_none
  | n + 1, σ, x1, x2, x3 => cb_W_rule_63 F _ (cl_W_rule_63 F n) σ x1 x2 x3
set_option maxRecDepth 100000 in
set_option maxHeartbeats 4000000 in
theorem c_W_rule {x : Bool} (F : Nat) (σ : St) (x1 : Int) : Ct 7 1 1 yX10_rule cX10_rule 4 (some .int) (LYC x false false) (LYC x false false) [.ref 0, vi x1] σ (f_W_rule F σ x1) := by
  unfold f_W_rule
  refine Ct_of (d := 7) (kp := 1) (kd := 1) (own := RX10) (nL := 4) (ret := (some .int)) (LY := (LYC x false false)) (LYe := (LYC x false false)) (L := [some (.ref 0), some (vi x1), none, none]) rfl (by decide +kernel) rfl rfl mf_L_108.2.2.2.1 rfl fun K => ?_
  refine a_aload_n dX10_rule_0 rfl ?_
  refine a_getR (c0 := 79) fl_X10_26 lyC_0 rfl dX10_rule_1 (key := 2) rfl ?_
  refine a_getI fl_X10_172 lyC_79 rfl dX10_rule_4 (key := 5059) rfl ?_
  refine a_if_eq dX10_rule_7 rfl (fun _ => ?_) (fun _ => ?_)
  · refine a_iconst dX10_rule_19 ?_
    exact a_iret dX10_rule_20
  refine a_iload_n dX10_rule_10 rfl ?_
  refine a_if_lt dX10_rule_11 rfl (fun _ => ?_) (fun _ => ?_)
  · refine a_iconst dX10_rule_19 ?_
    exact a_iret dX10_rule_20
  refine a_iload_n dX10_rule_14 rfl ?_
  refine a_iconst dX10_rule_15 ?_
  refine a_icmp_le dX10_rule_16 rfl (fun _ => ?_) (fun _ => ?_)
  · refine a_iload_n dX10_rule_21 rfl ?_
    refine a_if_ne dX10_rule_22 rfl (fun _ => ?_) (fun _ => ?_)
    · refine a_iload_n dX10_rule_37 rfl ?_
      refine a_if_ne dX10_rule_38 rfl (fun _ => ?_) (fun _ => ?_)
      · refine a_aload_n dX10_rule_51 rfl ?_
        refine a_getR (c0 := 79) fl_X10_26 lyC_0 rfl dX10_rule_52 (key := 2) rfl ?_
        refine a_callVi (as := []) mf_X10_211 lyC_79 rfl (c_Scene_longestRun_scene0 F _) LYsame.rf dX10_rule_55 rfl rfl rfl rfl rfl rfl (Or.inl rfl) fun r1 σ2 => ?_
        refine a_iconst dX10_rule_58 ?_
        refine a_iadd dX10_rule_59 ?_
        refine a_bv fun x2_3 ex2_3 => ?_
        refine a_istore_n (y := x2_3) (L' := [some (.ref 0), some (vi x1), some (vi x2_3), none]) dX10_rule_60 ex2_3 rfl rfl rfl ?_
        refine a_iconst dX10_rule_61 ?_
        refine a_istore_n (L' := [some (.ref 0), some (vi x1), some (vi x2_3), some (vi 0)]) dX10_rule_62 rfl rfl rfl rfl ?_
        exact cl_W_rule_63 F F _ _ _ _
      refine a_aload_n dX10_rule_41 rfl ?_
      refine a_getR (c0 := 79) fl_X10_26 lyC_0 rfl dX10_rule_42 (key := 2) rfl ?_
      refine a_getI fl_X10_172 lyC_79 rfl dX10_rule_45 (key := 5059) rfl ?_
      refine a_goto dX10_rule_48 rfl ?_
      refine a_bv fun x2_16 ex2_16 => ?_
      refine a_istore_n (y := x2_16) (L' := [some (.ref 0), some (vi x1), some (vi x2_16), none]) dX10_rule_60 ex2_16 rfl rfl rfl ?_
      refine a_iconst dX10_rule_61 ?_
      refine a_istore_n (L' := [some (.ref 0), some (vi x1), some (vi x2_16), some (vi 0)]) dX10_rule_62 rfl rfl rfl rfl ?_
      exact cl_W_rule_63 F F _ _ _ _
    refine a_aload_n dX10_rule_25 rfl ?_
    refine a_getR (c0 := 79) fl_X10_26 lyC_0 rfl dX10_rule_26 (key := 2) rfl ?_
    refine a_callVi (as := []) mf_X10_218 lyC_79 rfl (c_Scene_standsEven_scene0 F _) LYsame.rf dX10_rule_29 rfl rfl rfl rfl rfl rfl (Or.inl rfl) fun r17 σ18 => ?_
    refine a_if_ne dX10_rule_32 rfl (fun _ => ?_) (fun _ => ?_)
    · refine a_iload_n dX10_rule_37 rfl ?_
      refine a_if_ne dX10_rule_38 rfl (fun _ => ?_) (fun _ => ?_)
      · refine a_aload_n dX10_rule_51 rfl ?_
        refine a_getR (c0 := 79) fl_X10_26 lyC_0 rfl dX10_rule_52 (key := 2) rfl ?_
        refine a_callVi (as := []) mf_X10_211 lyC_79 rfl (c_Scene_longestRun_scene0 F _) LYsame.rf dX10_rule_55 rfl rfl rfl rfl rfl rfl (Or.inl rfl) fun r19 σ20 => ?_
        refine a_iconst dX10_rule_58 ?_
        refine a_iadd dX10_rule_59 ?_
        refine a_bv fun x2_21 ex2_21 => ?_
        refine a_istore_n (y := x2_21) (L' := [some (.ref 0), some (vi x1), some (vi x2_21), none]) dX10_rule_60 ex2_21 rfl rfl rfl ?_
        refine a_iconst dX10_rule_61 ?_
        refine a_istore_n (L' := [some (.ref 0), some (vi x1), some (vi x2_21), some (vi 0)]) dX10_rule_62 rfl rfl rfl rfl ?_
        exact cl_W_rule_63 F F _ _ _ _
      refine a_aload_n dX10_rule_41 rfl ?_
      refine a_getR (c0 := 79) fl_X10_26 lyC_0 rfl dX10_rule_42 (key := 2) rfl ?_
      refine a_getI fl_X10_172 lyC_79 rfl dX10_rule_45 (key := 5059) rfl ?_
      refine a_goto dX10_rule_48 rfl ?_
      refine a_bv fun x2_22 ex2_22 => ?_
      refine a_istore_n (y := x2_22) (L' := [some (.ref 0), some (vi x1), some (vi x2_22), none]) dX10_rule_60 ex2_22 rfl rfl rfl ?_
      refine a_iconst dX10_rule_61 ?_
      refine a_istore_n (L' := [some (.ref 0), some (vi x1), some (vi x2_22), some (vi 0)]) dX10_rule_62 rfl rfl rfl rfl ?_
      exact cl_W_rule_63 F F _ _ _ _
    refine a_iconst dX10_rule_35 ?_
    exact a_iret dX10_rule_36
  refine a_iconst dX10_rule_19 ?_
  exact a_iret dX10_rule_20
def f_Told_at_steps (F : Nat) (σ : St) (x1 : Int) : Option (Int × St) := gd (rng x1) (if x1 < 0 then some ((-1), σ) else gd (rng x1 ∧ rng (gF σ 577)) (if (gF σ 577) ≤ x1 then some ((-1), σ) else gd (rng x1 ∧ rng 46) (if (46 : Int) ≤ x1 then some ((-1), σ) else gd (inb x1 46) (some ((gA σ 10 (Int.toNat x1)), σ)))))
set_option maxRecDepth 100000 in
set_option maxHeartbeats 4000000 in
theorem c_Told_at_steps {x : Bool} (F : Nat) (σ : St) (x1 : Int) : Ct 1 0 1 yX9_at cX9_at 2 (some .int) (LYC x false false) (LYC x false false) [.ref 9, vi x1] σ (f_Told_at_steps F σ x1) := by
  unfold f_Told_at_steps
  refine Ct_of (d := 1) (kp := 0) (kd := 1) (own := RX9) (nL := 2) (ret := (some .int)) (LY := (LYC x false false)) (LYe := (LYC x false false)) (L := [some (.ref 9), some (vi x1)]) rfl (by decide +kernel) rfl rfl mf_X10_234.2.2.2.1 rfl fun K => ?_
  refine a_iload_n dX9_at_0 rfl ?_
  refine a_if_lt dX9_at_1 rfl (fun _ => ?_) (fun _ => ?_)
  · refine a_iconst dX9_at_30 ?_
    exact a_iret dX9_at_31
  refine a_iload_n dX9_at_4 rfl ?_
  refine a_aload_n dX9_at_5 rfl ?_
  refine a_getI fl_X9_15 lyC_9 rfl dX9_at_6 (key := 577) rfl ?_
  refine a_icmp_ge dX9_at_9 rfl (fun _ => ?_) (fun _ => ?_)
  · refine a_iconst dX9_at_30 ?_
    exact a_iret dX9_at_31
  refine a_iload_n dX9_at_12 rfl ?_
  refine a_aload_n dX9_at_13 rfl ?_
  refine a_getR (c0 := 10) fl_X9_9 lyC_9 rfl dX9_at_14 (key := 576) rfl ?_
  refine a_alen lyC_10 dX9_at_17 ?_
  refine a_icmp_ge dX9_at_18 rfl (fun _ => ?_) (fun _ => ?_)
  · refine a_iconst dX9_at_30 ?_
    exact a_iret dX9_at_31
  refine a_aload_n dX9_at_21 rfl ?_
  refine a_getR (c0 := 10) fl_X9_9 lyC_9 rfl dX9_at_22 (key := 576) rfl ?_
  refine a_iload_n dX9_at_25 rfl ?_
  refine a_iald lyC_10 rfl dX9_at_26 ?_
  refine a_goto dX9_at_27 rfl ?_
  exact a_iret dX9_at_31
def f_W_ruleAt (F : Nat) (σ : St) (x1 : Int) : Option (Int × St) := gd (rng x1 ∧ rng 1) (if (1 : Int) ≤ x1 then bnd (f_Told_at_steps F σ (x1 - 1)) fun r1 σ2 => some (r1, σ2) else some ((-1), σ))
set_option maxRecDepth 100000 in
set_option maxHeartbeats 4000000 in
theorem c_W_ruleAt {x : Bool} (F : Nat) (σ : St) (x1 : Int) : Ct 2 0 1 yX10_ruleAt cX10_ruleAt 2 (some .int) (LYC x false false) (LYC x false false) [.ref 0, vi x1] σ (f_W_ruleAt F σ x1) := by
  unfold f_W_ruleAt
  refine Ct_of (d := 2) (kp := 0) (kd := 1) (own := RX10) (nL := 2) (ret := (some .int)) (LY := (LYC x false false)) (LYe := (LYC x false false)) (L := [some (.ref 0), some (vi x1)]) rfl (by decide +kernel) rfl rfl mf_L_112.2.2.2.1 rfl fun K => ?_
  refine a_iload_n dX10_ruleAt_0 rfl ?_
  refine a_iconst dX10_ruleAt_1 ?_
  refine a_icmp_ge dX10_ruleAt_2 rfl (fun _ => ?_) (fun _ => ?_)
  · refine a_aload_n dX10_ruleAt_9 rfl ?_
    refine a_getR (c0 := 7) fl_X10_51 lyC_0 rfl dX10_ruleAt_10 (key := 7) rfl ?_
    refine a_getR (c0 := 9) fl_X10_228 lyC_7 rfl dX10_ruleAt_13 (key := 449) rfl ?_
    refine a_iload_n dX10_ruleAt_16 rfl ?_
    refine a_iconst dX10_ruleAt_17 ?_
    refine a_isub dX10_ruleAt_18 ?_
    refine a_callVi (as := [vi (x1 - 1)]) mf_X10_234 lyC_9 rfl (c_Told_at_steps F _ _) LYsame.rf dX10_ruleAt_19 rfl rfl rfl rfl rfl rfl (Or.inl rfl) fun r1 σ2 => ?_
    exact a_iret dX10_ruleAt_22
  refine a_iconst dX10_ruleAt_5 ?_
  refine a_goto dX10_ruleAt_6 rfl ?_
  exact a_iret dX10_ruleAt_22
def f_W_roots (F : Nat) (σ : St) : Option (Int × St) := some ((gF σ 451), σ)
set_option maxRecDepth 100000 in
set_option maxHeartbeats 4000000 in
theorem c_W_roots {x : Bool} (F : Nat) (σ : St) : Ct 1 0 2 yX10_roots cX10_roots 1 (some .long) (LYC x false false) (LYC x false false) [.ref 0] σ (f_W_roots F σ) := by
  unfold f_W_roots
  refine Ct_of (d := 1) (kp := 0) (kd := 2) (own := RX10) (nL := 1) (ret := (some .long)) (LY := (LYC x false false)) (LYe := (LYC x false false)) (L := [some (.ref 0)]) rfl (by decide +kernel) rfl rfl mf_L_116.2.2.2.1 rfl fun K => ?_
  refine a_aload_n dX10_roots_0 rfl ?_
  refine a_getR (c0 := 7) fl_X10_51 lyC_0 rfl dX10_roots_1 (key := 7) rfl ?_
  refine a_getL fl_X10_237 lyC_7 rfl dX10_roots_4 (key := 451) rfl ?_
  exact a_lret dX10_roots_7
def f_Told_at_strengths (F : Nat) (σ : St) (x1 : Int) : Option (Int × St) := gd (rng x1) (if x1 < 0 then some ((-1), σ) else gd (rng x1 ∧ rng (gF σ 705)) (if (gF σ 705) ≤ x1 then some ((-1), σ) else gd (rng x1 ∧ rng 46) (if (46 : Int) ≤ x1 then some ((-1), σ) else gd (inb x1 46) (some ((gA σ 12 (Int.toNat x1)), σ)))))
set_option maxRecDepth 100000 in
set_option maxHeartbeats 4000000 in
theorem c_Told_at_strengths {x : Bool} (F : Nat) (σ : St) (x1 : Int) : Ct 1 0 1 yX9_at cX9_at 2 (some .int) (LYC x false false) (LYC x false false) [.ref 11, vi x1] σ (f_Told_at_strengths F σ x1) := by
  unfold f_Told_at_strengths
  refine Ct_of (d := 1) (kp := 0) (kd := 1) (own := RX9) (nL := 2) (ret := (some .int)) (LY := (LYC x false false)) (LYe := (LYC x false false)) (L := [some (.ref 11), some (vi x1)]) rfl (by decide +kernel) rfl rfl mf_X10_234.2.2.2.1 rfl fun K => ?_
  refine a_iload_n dX9_at_0 rfl ?_
  refine a_if_lt dX9_at_1 rfl (fun _ => ?_) (fun _ => ?_)
  · refine a_iconst dX9_at_30 ?_
    exact a_iret dX9_at_31
  refine a_iload_n dX9_at_4 rfl ?_
  refine a_aload_n dX9_at_5 rfl ?_
  refine a_getI fl_X9_15 lyC_11 rfl dX9_at_6 (key := 705) rfl ?_
  refine a_icmp_ge dX9_at_9 rfl (fun _ => ?_) (fun _ => ?_)
  · refine a_iconst dX9_at_30 ?_
    exact a_iret dX9_at_31
  refine a_iload_n dX9_at_12 rfl ?_
  refine a_aload_n dX9_at_13 rfl ?_
  refine a_getR (c0 := 12) fl_X9_9 lyC_11 rfl dX9_at_14 (key := 704) rfl ?_
  refine a_alen lyC_12 dX9_at_17 ?_
  refine a_icmp_ge dX9_at_18 rfl (fun _ => ?_) (fun _ => ?_)
  · refine a_iconst dX9_at_30 ?_
    exact a_iret dX9_at_31
  refine a_aload_n dX9_at_21 rfl ?_
  refine a_getR (c0 := 12) fl_X9_9 lyC_11 rfl dX9_at_22 (key := 704) rfl ?_
  refine a_iload_n dX9_at_25 rfl ?_
  refine a_iald lyC_12 rfl dX9_at_26 ?_
  refine a_goto dX9_at_27 rfl ?_
  exact a_iret dX9_at_31
def f_W_strength (F : Nat) (σ : St) (x1 : Int) : Option (Int × St) := bnd (f_Told_at_strengths F σ x1) fun r1 σ2 => some (r1, σ2)
set_option maxRecDepth 100000 in
set_option maxHeartbeats 4000000 in
theorem c_W_strength {x : Bool} (F : Nat) (σ : St) (x1 : Int) : Ct 2 0 1 yX10_strength cX10_strength 2 (some .int) (LYC x false false) (LYC x false false) [.ref 0, vi x1] σ (f_W_strength F σ x1) := by
  unfold f_W_strength
  refine Ct_of (d := 2) (kp := 0) (kd := 1) (own := RX10) (nL := 2) (ret := (some .int)) (LY := (LYC x false false)) (LYe := (LYC x false false)) (L := [some (.ref 0), some (vi x1)]) rfl (by decide +kernel) rfl rfl mf_L_120.2.2.2.1 rfl fun K => ?_
  refine a_aload_n dX10_strength_0 rfl ?_
  refine a_getR (c0 := 7) fl_X10_51 lyC_0 rfl dX10_strength_1 (key := 7) rfl ?_
  refine a_getR (c0 := 11) fl_X10_241 lyC_7 rfl dX10_strength_4 (key := 450) rfl ?_
  refine a_iload_n dX10_strength_7 rfl ?_
  refine a_callVi (as := [vi x1]) mf_X10_234 lyC_11 rfl (c_Told_at_strengths F _ _) LYsame.rf dX10_strength_8 rfl rfl rfl rfl rfl rfl (Or.inl rfl) fun r1 σ2 => ?_
  exact a_iret dX10_strength_11
def b_W_takeReadings_34 (F : Nat) (self : St → Int → Int → Option (Int × St)) (σ : St) (x1 x2 : Int) : Option (Int × St) := gd (rng x1 ∧ rng 2 ∧ 2 ≠ (0 : Int)) (gd (rng x2 ∧ rng (Int.tdiv x1 2)) (if (Int.tdiv x1 2) ≤ x2 then gd (rng x1 ∧ rng 2 ∧ 2 ≠ (0 : Int)) (some ((Int.tdiv x1 2), σ)) else gd (inb (2 * x2) 940) (bv ((gA σ 2 (Int.toNat (2 * x2))) * 256) fun t3 => gd (inb ((2 * x2) + 1) 940) (bv (gA σ 2 (Int.toNat ((2 * x2) + 1))) fun t4 => gd (rng (t3 + t4) ∧ rng (gF σ 1473) ∧ (gF σ 1473) ≠ (0 : Int)) (bv (Int.tmod (t3 + t4) (gF σ 1473)) fun t5 => gd (inb x2 10) (bs (sA σ 94 (Int.toNat x2) t5) fun σ6 => bv (x2 + 1) fun x2_7 => self σ6 x1 x2_7))))))
def l_W_takeReadings_34 (F : Nat) : Nat → St → Int → Int → Option (Int × St)
  | 0 => fun _ _ _ => none
  | n + 1 => fun σ x1 x2 => b_W_takeReadings_34 F (l_W_takeReadings_34 F n) σ x1 x2
def f_W_takeReadings (F : Nat) (σ : St) : Option (Int × St) := bv (gF σ 65) fun x1_1 => bs (sF σ 65 0) fun σ2 => gd (rng x1_1 ∧ rng 2 ∧ 2 ≠ (0 : Int)) (gd (rng (Int.tmod x1_1 2)) (if (Int.tmod x1_1 2) = 0 then gd (rng x1_1 ∧ rng 2 ∧ 2 ≠ (0 : Int)) (gd (rng (Int.tdiv x1_1 2) ∧ rng 10) (if (Int.tdiv x1_1 2) ≤ 10 then l_W_takeReadings_34 F F σ2 x1_1 0 else some ((-1), σ2))) else some ((-1), σ2)))
set_option maxRecDepth 100000 in
set_option maxHeartbeats 4000000 in
theorem cb_W_takeReadings_34 {K : KX} {x : Bool} (F : Nat) (self : St → Int → Int → Option (Int × St)) (hself : ∀ σ x1 x2, WA 1 0 1 cX10_takeReadings RX10 3 (some .int) (LYC x false false) (LYC x false false) K 34 [some (.ref 0), some (vi x1), some (vi x2)] [] σ (self σ x1 x2)) (σ : St) (x1 x2 : Int) : WA 1 0 1 cX10_takeReadings RX10 3 (some .int) (LYC x false false) (LYC x false false) K 34 [some (.ref 0), some (vi x1), some (vi x2)] [] σ (b_W_takeReadings_34 F self σ x1 x2) := by
  unfold b_W_takeReadings_34
  refine a_iload_n dX10_takeReadings_34 rfl ?_
  refine a_iload_n dX10_takeReadings_35 rfl ?_
  refine a_iconst dX10_takeReadings_36 ?_
  refine a_idiv dX10_takeReadings_37 (fun _ => ?_)
  refine a_icmp_ge dX10_takeReadings_38 rfl (fun _ => ?_) (fun _ => ?_)
  · refine a_iload_n dX10_takeReadings_93 rfl ?_
    refine a_iconst dX10_takeReadings_94 ?_
    refine a_idiv dX10_takeReadings_95 (fun _ => ?_)
    exact a_iret dX10_takeReadings_96
  refine a_aload_n dX10_takeReadings_41 rfl ?_
  refine a_getR (c0 := 94) fl_X10_69 lyC_0 rfl dX10_takeReadings_42 (key := 10) rfl ?_
  refine a_iload_n dX10_takeReadings_45 rfl ?_
  refine a_aload_n dX10_takeReadings_46 rfl ?_
  refine a_getR (c0 := 1) fl_X10_10 lyC_0 rfl dX10_takeReadings_47 (key := 0) rfl ?_
  refine a_getR (c0 := 2) fl_X10_306 lyC_1 rfl dX10_takeReadings_50 (key := 64) rfl ?_
  refine a_iconst dX10_takeReadings_53 ?_
  refine a_iload_n dX10_takeReadings_54 rfl ?_
  refine a_imul dX10_takeReadings_55 ?_
  refine a_iald lyC_2 rfl dX10_takeReadings_56 ?_
  refine a_sipush dX10_takeReadings_57 si_256 ?_
  refine a_imul dX10_takeReadings_60 ?_
  refine a_bvi fun t3 => ?_
  refine a_aload_n dX10_takeReadings_61 rfl ?_
  refine a_getR (c0 := 1) fl_X10_10 lyC_0 rfl dX10_takeReadings_62 (key := 0) rfl ?_
  refine a_getR (c0 := 2) fl_X10_306 lyC_1 rfl dX10_takeReadings_65 (key := 64) rfl ?_
  refine a_iconst dX10_takeReadings_68 ?_
  refine a_iload_n dX10_takeReadings_69 rfl ?_
  refine a_imul dX10_takeReadings_70 ?_
  refine a_iconst dX10_takeReadings_71 ?_
  refine a_iadd dX10_takeReadings_72 ?_
  refine a_iald lyC_2 rfl dX10_takeReadings_73 ?_
  refine a_bvi fun t4 => ?_
  refine a_iadd dX10_takeReadings_74 ?_
  refine a_aload_n dX10_takeReadings_75 rfl ?_
  refine a_getR (c0 := 79) fl_X10_26 lyC_0 rfl dX10_takeReadings_76 (key := 2) rfl ?_
  refine a_getR (c0 := 23) fl_X10_153 lyC_79 rfl dX10_takeReadings_79 (key := 5056) rfl ?_
  refine a_getI fl_X10_178 lyC_23 rfl dX10_takeReadings_82 (key := 1473) rfl ?_
  refine a_irem dX10_takeReadings_85 (fun _ => ?_)
  refine a_bvi fun t5 => ?_
  refine a_iast lyC_94 rfl dX10_takeReadings_86 fun σ6 => ?_
  refine a_bv fun x2_7 ex2_7 => ?_
  refine a_iinc (y := x2_7) (L' := [some (.ref 0), some (vi x1), some (vi x2_7)]) dX10_takeReadings_87 rfl ex2_7 rfl rfl rfl ?_
  refine a_goto dX10_takeReadings_90 rfl ?_
  exact hself _ _ _
set_option maxRecDepth 100000 in
set_option maxHeartbeats 4000000 in
theorem cl_W_takeReadings_34 {K : KX} {x : Bool} (F : Nat) : ∀ (n : Nat) (σ : St) (x1 x2 : Int), WA 1 0 1 cX10_takeReadings RX10 3 (some .int) (LYC x false false) (LYC x false false) K 34 [some (.ref 0), some (vi x1), some (vi x2)] [] σ (l_W_takeReadings_34 F n σ x1 x2)
  | 0, _, _, _ => a_none
  | n + 1, σ, x1, x2 => cb_W_takeReadings_34 F _ (cl_W_takeReadings_34 F n) σ x1 x2
set_option maxRecDepth 100000 in
set_option maxHeartbeats 4000000 in
theorem c_W_takeReadings {x : Bool} (F : Nat) (σ : St) : Ct 1 0 1 yX10_takeReadings cX10_takeReadings 3 (some .int) (LYC x false false) (LYC x false false) [.ref 0] σ (f_W_takeReadings F σ) := by
  unfold f_W_takeReadings
  refine Ct_of (d := 1) (kp := 0) (kd := 1) (own := RX10) (nL := 3) (ret := (some .int)) (LY := (LYC x false false)) (LYe := (LYC x false false)) (L := [some (.ref 0), none, none]) rfl (by decide +kernel) rfl rfl mf_X10_244.2.2.2.1 rfl fun K => ?_
  refine a_aload_n dX10_takeReadings_0 rfl ?_
  refine a_getR (c0 := 1) fl_X10_10 lyC_0 rfl dX10_takeReadings_1 (key := 0) rfl ?_
  refine a_getI fl_X10_108 lyC_1 rfl dX10_takeReadings_4 (key := 65) rfl ?_
  refine a_bv fun x1_1 ex1_1 => ?_
  refine a_istore_n (y := x1_1) (L' := [some (.ref 0), some (vi x1_1), none]) dX10_takeReadings_7 ex1_1 rfl rfl rfl ?_
  refine a_aload_n dX10_takeReadings_8 rfl ?_
  refine a_getR (c0 := 1) fl_X10_10 lyC_0 rfl dX10_takeReadings_9 (key := 0) rfl ?_
  refine a_iconst dX10_takeReadings_12 ?_
  refine a_putI fl_X10_108 cf_X8 rfl rfl lyC_1 rfl dX10_takeReadings_13 (key := 65) rfl fun σ2 => ?_
  refine a_iload_n dX10_takeReadings_16 rfl ?_
  refine a_iconst dX10_takeReadings_17 ?_
  refine a_irem dX10_takeReadings_18 (fun _ => ?_)
  refine a_if_ne dX10_takeReadings_19 rfl (fun _ => ?_) (fun _ => ?_)
  · refine a_iconst dX10_takeReadings_30 ?_
    exact a_iret dX10_takeReadings_31
  refine a_iload_n dX10_takeReadings_22 rfl ?_
  refine a_iconst dX10_takeReadings_23 ?_
  refine a_idiv dX10_takeReadings_24 (fun _ => ?_)
  refine a_bipush dX10_takeReadings_25 bi_10 ?_
  refine a_icmp_le dX10_takeReadings_27 rfl (fun _ => ?_) (fun _ => ?_)
  · refine a_iconst dX10_takeReadings_32 ?_
    refine a_istore_n (L' := [some (.ref 0), some (vi x1_1), some (vi 0)]) dX10_takeReadings_33 rfl rfl rfl rfl ?_
    exact cl_W_takeReadings_34 F F _ _ _
  refine a_iconst dX10_takeReadings_30 ?_
  exact a_iret dX10_takeReadings_31
def f_W_tellTrack (F : Nat) (σ : St) (x1 x2 : Int) : Option (Int × St) := bs (sF σ 833 3) fun σ1 => gd (inb 0 3) (bs (sA σ1 14 (Int.toNat 0) 0) fun σ2 => gd (inb 1 3) (bs (sA σ2 14 (Int.toNat 1) x1) fun σ3 => gd (inb 2 3) (bs (sA σ3 14 (Int.toNat 2) x2) fun σ4 => some (0, σ4))))
set_option maxRecDepth 100000 in
set_option maxHeartbeats 4000000 in
theorem c_W_tellTrack {x : Bool} (F : Nat) (σ : St) (x1 x2 : Int) : Ct 1 0 0 yX10_tellTrack cX10_tellTrack 3 none (LYC x false false) (LYC x false false) [.ref 0, vi x1, vi x2] σ (f_W_tellTrack F σ x1 x2) := by
  unfold f_W_tellTrack
  refine Ct_of (d := 1) (kp := 0) (kd := 0) (own := RX10) (nL := 3) (ret := none) (LY := (LYC x false false)) (LYe := (LYC x false false)) (L := [some (.ref 0), some (vi x1), some (vi x2)]) rfl (by decide +kernel) rfl rfl mf_X10_261.2.2.2.1 rfl fun K => ?_
  refine a_aload_n dX10_tellTrack_0 rfl ?_
  refine a_getR (c0 := 13) fl_X10_78 lyC_0 rfl dX10_tellTrack_1 (key := 11) rfl ?_
  refine a_iconst dX10_tellTrack_4 ?_
  refine a_putI fl_X10_231 cf_X9 rfl rfl lyC_13 rfl dX10_tellTrack_5 (key := 833) rfl fun σ1 => ?_
  refine a_aload_n dX10_tellTrack_8 rfl ?_
  refine a_getR (c0 := 13) fl_X10_78 lyC_0 rfl dX10_tellTrack_9 (key := 11) rfl ?_
  refine a_getR (c0 := 14) fl_X10_290 lyC_13 rfl dX10_tellTrack_12 (key := 832) rfl ?_
  refine a_iconst dX10_tellTrack_15 ?_
  refine a_iconst dX10_tellTrack_16 ?_
  refine a_iast lyC_14 rfl dX10_tellTrack_17 fun σ2 => ?_
  refine a_aload_n dX10_tellTrack_18 rfl ?_
  refine a_getR (c0 := 13) fl_X10_78 lyC_0 rfl dX10_tellTrack_19 (key := 11) rfl ?_
  refine a_getR (c0 := 14) fl_X10_290 lyC_13 rfl dX10_tellTrack_22 (key := 832) rfl ?_
  refine a_iconst dX10_tellTrack_25 ?_
  refine a_iload_n dX10_tellTrack_26 rfl ?_
  refine a_iast lyC_14 rfl dX10_tellTrack_27 fun σ3 => ?_
  refine a_aload_n dX10_tellTrack_28 rfl ?_
  refine a_getR (c0 := 13) fl_X10_78 lyC_0 rfl dX10_tellTrack_29 (key := 11) rfl ?_
  refine a_getR (c0 := 14) fl_X10_290 lyC_13 rfl dX10_tellTrack_32 (key := 832) rfl ?_
  refine a_iconst dX10_tellTrack_35 ?_
  refine a_iload_n dX10_tellTrack_36 rfl ?_
  refine a_iast lyC_14 rfl dX10_tellTrack_37 fun σ4 => ?_
  exact a_vret dX10_tellTrack_38
def b_W_driftFits_12 (F : Nat) (self : St → Int → Int → Int → Int → Option (Int × St)) (σ : St) (x1 x2 x3 x5 : Int) : Option (Int × St) := gd (rng x5 ∧ rng x3) (if x3 ≤ x5 then some (1, σ) else gd (rng (x1 * x5) ∧ rng (gF σ 1472) ∧ (gF σ 1472) ≠ (0 : Int)) (bv (Int.tmod (x1 * x5) (gF σ 1472)) fun t1 => bnd (f_Lattice_waveAt_lattice0 F σ t1 x2) fun r2 σ3 => gd (inb x5 10) (gd (inb 0 10) (bnd (f_W_product F σ3 (gA σ3 94 (Int.toNat 0)) r2 (gF σ3 1473)) fun r4 σ5 => gd (rng (gA σ3 94 (Int.toNat x5)) ∧ rng r4) (if (gA σ3 94 (Int.toNat x5)) = r4 then bv (x5 + 1) fun x5_6 => self σ5 x1 x2 x3 x5_6 else some (0, σ5))))))
def l_W_driftFits_12 (F : Nat) : Nat → St → Int → Int → Int → Int → Option (Int × St)
  | 0 => fun _ _ _ _ _ => none
  | n + 1 => fun σ x1 x2 x3 x5 => b_W_driftFits_12 F (l_W_driftFits_12 F n) σ x1 x2 x3 x5
def f_W_driftFits (F : Nat) (σ : St) (x1 x2 x3 : Int) : Option (Int × St) := l_W_driftFits_12 F F σ x1 x2 x3 1
set_option maxRecDepth 100000 in
set_option maxHeartbeats 4000000 in
theorem cb_W_driftFits_12 {K : KX} {x : Bool} (F : Nat) (self : St → Int → Int → Int → Int → Option (Int × St)) (hself : ∀ σ x1 x2 x3 x5, WA 2 0 1 cX10_driftFits RX10 7 (some .boolean) (LYC x false false) (LYC x false false) K 12 [some (.ref 0), some (vi x1), some (vi x2), some (vi x3), some (.ref 23), some (vi x5), none] [] σ (self σ x1 x2 x3 x5)) (σ : St) (x1 x2 x3 x5 : Int) : WA 2 0 1 cX10_driftFits RX10 7 (some .boolean) (LYC x false false) (LYC x false false) K 12 [some (.ref 0), some (vi x1), some (vi x2), some (vi x3), some (.ref 23), some (vi x5), none] [] σ (b_W_driftFits_12 F self σ x1 x2 x3 x5) := by
  unfold b_W_driftFits_12
  refine a_iload dX10_driftFits_12 rfl ?_
  refine a_iload_n dX10_driftFits_14 rfl ?_
  refine a_icmp_ge dX10_driftFits_15 rfl (fun _ => ?_) (fun _ => ?_)
  · refine a_iconst dX10_driftFits_70 ?_
    exact a_zretc (by decide) dX10_driftFits_71
  refine a_aload dX10_driftFits_18 rfl ?_
  refine a_iload_n dX10_driftFits_20 rfl ?_
  refine a_iload dX10_driftFits_21 rfl ?_
  refine a_imul dX10_driftFits_23 ?_
  refine a_aload dX10_driftFits_24 rfl ?_
  refine a_getI fl_X10_185 lyC_23 rfl dX10_driftFits_26 (key := 1472) rfl ?_
  refine a_irem dX10_driftFits_29 (fun _ => ?_)
  refine a_bvi fun t1 => ?_
  refine a_iload_n dX10_driftFits_30 rfl ?_
  refine a_callVi (as := [vi t1, vi x2]) mf_X10_162 lyC_23 rfl (c_Lattice_waveAt_lattice0 F _ _ _) LYsame.rf dX10_driftFits_31 rfl rfl rfl rfl rfl rfl (Or.inl rfl) fun r2 σ3 => ?_
  refine a_istore (L' := [some (.ref 0), some (vi x1), some (vi x2), some (vi x3), some (.ref 23), some (vi x5), some (vi r2)]) dX10_driftFits_34 rfl rfl rfl rfl ?_
  refine a_aload_n dX10_driftFits_36 rfl ?_
  refine a_getR (c0 := 94) fl_X10_69 lyC_0 rfl dX10_driftFits_37 (key := 10) rfl ?_
  refine a_iload dX10_driftFits_40 rfl ?_
  refine a_iald lyC_94 rfl dX10_driftFits_42 ?_
  refine a_aload_n dX10_driftFits_43 rfl ?_
  refine a_getR (c0 := 94) fl_X10_69 lyC_0 rfl dX10_driftFits_44 (key := 10) rfl ?_
  refine a_iconst dX10_driftFits_47 ?_
  refine a_iald lyC_94 rfl dX10_driftFits_48 ?_
  refine a_iload dX10_driftFits_49 rfl ?_
  refine a_aload dX10_driftFits_51 rfl ?_
  refine a_getI fl_X10_178 lyC_23 rfl dX10_driftFits_53 (key := 1473) rfl ?_
  refine a_callSi (as := [vi (gA σ3 94 (Int.toNat 0)), vi r2, vi (gF σ3 1473)]) mf_X10_257 (c_W_product F _ _ _ _) LYsame.rf dX10_driftFits_56 rfl rfl rfl rfl rfl rfl (Or.inl rfl) fun r4 σ5 => ?_
  refine a_icmp_eq dX10_driftFits_59 rfl (fun _ => ?_) (fun _ => ?_)
  · refine a_bv fun x5_6 ex5_6 => ?_
    refine a_iinc (y := x5_6) (L' := [some (.ref 0), some (vi x1), some (vi x2), some (vi x3), some (.ref 23), some (vi x5_6), some (vi r2)]) dX10_driftFits_64 rfl ex5_6 rfl rfl rfl ?_
    refine a_goto dX10_driftFits_67 rfl ?_
    exact a_L (lsub_get (A := [some (.ref 0), some (vi x1), some (vi x2), some (vi x3), some (.ref 23), some (vi x5_6), none]) ⟨rfl, ⟨rfl, ⟨rfl, ⟨rfl, ⟨rfl, ⟨rfl, trivial⟩⟩⟩⟩⟩⟩) (hself _ _ _ _ _)
  refine a_iconst dX10_driftFits_62 ?_
  exact a_zretc (by decide) dX10_driftFits_63
set_option maxRecDepth 100000 in
set_option maxHeartbeats 4000000 in
theorem cl_W_driftFits_12 {K : KX} {x : Bool} (F : Nat) : ∀ (n : Nat) (σ : St) (x1 x2 x3 x5 : Int), WA 2 0 1 cX10_driftFits RX10 7 (some .boolean) (LYC x false false) (LYC x false false) K 12 [some (.ref 0), some (vi x1), some (vi x2), some (vi x3), some (.ref 23), some (vi x5), none] [] σ (l_W_driftFits_12 F n σ x1 x2 x3 x5)
  | 0, _, _, _, _, _ => a_none
  | n + 1, σ, x1, x2, x3, x5 => cb_W_driftFits_12 F _ (cl_W_driftFits_12 F n) σ x1 x2 x3 x5
set_option maxRecDepth 100000 in
set_option maxHeartbeats 4000000 in
theorem c_W_driftFits {x : Bool} (F : Nat) (σ : St) (x1 x2 x3 : Int) : Ct 2 0 1 yX10_driftFits cX10_driftFits 7 (some .boolean) (LYC x false false) (LYC x false false) [.ref 0, vi x1, vi x2, vi x3] σ (f_W_driftFits F σ x1 x2 x3) := by
  unfold f_W_driftFits
  refine Ct_of (d := 2) (kp := 0) (kd := 1) (own := RX10) (nL := 7) (ret := (some .boolean)) (LY := (LYC x false false)) (LYe := (LYC x false false)) (L := [some (.ref 0), some (vi x1), some (vi x2), some (vi x3), none, none, none]) rfl (by decide +kernel) rfl rfl mf_X10_250.2.2.2.1 rfl fun K => ?_
  refine a_aload_n dX10_driftFits_0 rfl ?_
  refine a_getR (c0 := 79) fl_X10_26 lyC_0 rfl dX10_driftFits_1 (key := 2) rfl ?_
  refine a_getR (c0 := 23) fl_X10_153 lyC_79 rfl dX10_driftFits_4 (key := 5056) rfl ?_
  refine a_astore (L' := [some (.ref 0), some (vi x1), some (vi x2), some (vi x3), some (.ref 23), none, none]) dX10_driftFits_7 rfl rfl rfl rfl ?_
  refine a_iconst dX10_driftFits_9 ?_
  refine a_istore (L' := [some (.ref 0), some (vi x1), some (vi x2), some (vi x3), some (.ref 23), some (vi 1), none]) dX10_driftFits_10 rfl rfl rfl rfl ?_
  exact cl_W_driftFits_12 F F _ _ _ _ _
def b_W_tracksOfDeaf_2 (F : Nat) (self : St → Int → Int → Option (Int × St)) (σ : St) (x1 x2 : Int) : Option (Int × St) := gd (rng x2 ∧ rng x1) (if x1 ≤ x2 then bnd (f_W_tellTrack F σ 0 0) fun r1 σ2 => some (((gF σ2 1472) * (gF σ2 1472)), σ2) else gd (inb x2 10) (gd (rng (gA σ 94 (Int.toNat x2))) (if (gA σ 94 (Int.toNat x2)) = 0 then bv (x2 + 1) fun x2_3 => self σ x1 x2_3 else some (0, σ))))
def l_W_tracksOfDeaf_2 (F : Nat) : Nat → St → Int → Int → Option (Int × St)
  | 0 => fun _ _ _ => none
  | n + 1 => fun σ x1 x2 => b_W_tracksOfDeaf_2 F (l_W_tracksOfDeaf_2 F n) σ x1 x2
def f_W_tracksOfDeaf (F : Nat) (σ : St) (x1 : Int) : Option (Int × St) := l_W_tracksOfDeaf_2 F F σ x1 0
set_option maxRecDepth 100000 in
set_option maxHeartbeats 4000000 in
theorem cb_W_tracksOfDeaf_2 {K : KX} {x : Bool} (F : Nat) (self : St → Int → Int → Option (Int × St)) (hself : ∀ σ x1 x2, WA 2 0 1 cX10_tracksOfDeaf RX10 3 (some .int) (LYC x false false) (LYC x false false) K 2 [some (.ref 0), some (vi x1), some (vi x2)] [] σ (self σ x1 x2)) (σ : St) (x1 x2 : Int) : WA 2 0 1 cX10_tracksOfDeaf RX10 3 (some .int) (LYC x false false) (LYC x false false) K 2 [some (.ref 0), some (vi x1), some (vi x2)] [] σ (b_W_tracksOfDeaf_2 F self σ x1 x2) := by
  unfold b_W_tracksOfDeaf_2
  refine a_iload_n dX10_tracksOfDeaf_2 rfl ?_
  refine a_iload_n dX10_tracksOfDeaf_3 rfl ?_
  refine a_icmp_ge dX10_tracksOfDeaf_4 rfl (fun _ => ?_) (fun _ => ?_)
  · refine a_aload_n dX10_tracksOfDeaf_24 rfl ?_
    refine a_iconst dX10_tracksOfDeaf_25 ?_
    refine a_iconst dX10_tracksOfDeaf_26 ?_
    refine a_callVv (as := [vi 0, vi 0]) mf_X10_261 lyC_0 rfl (c_W_tellTrack F _ _ _) LYsame.rf dX10_tracksOfDeaf_27 rfl rfl rfl rfl rfl rfl (Or.inl rfl) fun r1 σ2 => ?_
    refine a_aload_n dX10_tracksOfDeaf_30 rfl ?_
    refine a_getR (c0 := 79) fl_X10_26 lyC_0 rfl dX10_tracksOfDeaf_31 (key := 2) rfl ?_
    refine a_getR (c0 := 23) fl_X10_153 lyC_79 rfl dX10_tracksOfDeaf_34 (key := 5056) rfl ?_
    refine a_getI fl_X10_185 lyC_23 rfl dX10_tracksOfDeaf_37 (key := 1472) rfl ?_
    refine a_aload_n dX10_tracksOfDeaf_40 rfl ?_
    refine a_getR (c0 := 79) fl_X10_26 lyC_0 rfl dX10_tracksOfDeaf_41 (key := 2) rfl ?_
    refine a_getR (c0 := 23) fl_X10_153 lyC_79 rfl dX10_tracksOfDeaf_44 (key := 5056) rfl ?_
    refine a_getI fl_X10_185 lyC_23 rfl dX10_tracksOfDeaf_47 (key := 1472) rfl ?_
    refine a_imul dX10_tracksOfDeaf_50 ?_
    exact a_iret dX10_tracksOfDeaf_51
  refine a_aload_n dX10_tracksOfDeaf_7 rfl ?_
  refine a_getR (c0 := 94) fl_X10_69 lyC_0 rfl dX10_tracksOfDeaf_8 (key := 10) rfl ?_
  refine a_iload_n dX10_tracksOfDeaf_11 rfl ?_
  refine a_iald lyC_94 rfl dX10_tracksOfDeaf_12 ?_
  refine a_if_eq dX10_tracksOfDeaf_13 rfl (fun _ => ?_) (fun _ => ?_)
  · refine a_bv fun x2_3 ex2_3 => ?_
    refine a_iinc (y := x2_3) (L' := [some (.ref 0), some (vi x1), some (vi x2_3)]) dX10_tracksOfDeaf_18 rfl ex2_3 rfl rfl rfl ?_
    refine a_goto dX10_tracksOfDeaf_21 rfl ?_
    exact hself _ _ _
  refine a_iconst dX10_tracksOfDeaf_16 ?_
  exact a_iret dX10_tracksOfDeaf_17
set_option maxRecDepth 100000 in
set_option maxHeartbeats 4000000 in
theorem cl_W_tracksOfDeaf_2 {K : KX} {x : Bool} (F : Nat) : ∀ (n : Nat) (σ : St) (x1 x2 : Int), WA 2 0 1 cX10_tracksOfDeaf RX10 3 (some .int) (LYC x false false) (LYC x false false) K 2 [some (.ref 0), some (vi x1), some (vi x2)] [] σ (l_W_tracksOfDeaf_2 F n σ x1 x2)
  | 0, _, _, _ => a_none
  | n + 1, σ, x1, x2 => cb_W_tracksOfDeaf_2 F _ (cl_W_tracksOfDeaf_2 F n) σ x1 x2
set_option maxRecDepth 100000 in
set_option maxHeartbeats 4000000 in
theorem c_W_tracksOfDeaf {x : Bool} (F : Nat) (σ : St) (x1 : Int) : Ct 2 0 1 yX10_tracksOfDeaf cX10_tracksOfDeaf 3 (some .int) (LYC x false false) (LYC x false false) [.ref 0, vi x1] σ (f_W_tracksOfDeaf F σ x1) := by
  unfold f_W_tracksOfDeaf
  refine Ct_of (d := 2) (kp := 0) (kd := 1) (own := RX10) (nL := 3) (ret := (some .int)) (LY := (LYC x false false)) (LYe := (LYC x false false)) (L := [some (.ref 0), some (vi x1), none]) rfl (by decide +kernel) rfl rfl mf_X10_247.2.2.2.1 rfl fun K => ?_
  refine a_iconst dX10_tracksOfDeaf_0 ?_
  refine a_istore_n (L' := [some (.ref 0), some (vi x1), some (vi 0)]) dX10_tracksOfDeaf_1 rfl rfl rfl rfl ?_
  exact cl_W_tracksOfDeaf_2 F F _ _ _
def b_W_tracks_64 (F : Nat) (self : St → Int → Int → Int → Int → Int → Option (Int × St)) (σ : St) (x1 x2 x4 x5 x6 : Int) : Option (Int × St) := gd (rng x6 ∧ rng (gF σ 1472)) (if (gF σ 1472) ≤ x6 then gd (rng x4) (if x4 ≤ 0 then some ((x4 * (gF σ 1472)), σ) else gd (inb 0 10) (gd (inb x1 10) (bnd (f_W_inverse F σ (gA σ 59 (Int.toNat x1)) (gF σ 1473)) fun r5 σ6 => bnd (f_W_product F σ6 (gA σ 94 (Int.toNat 0)) r5 (gF σ6 1473)) fun r7 σ8 => bnd (f_W_tellTrack F σ8 x5 r7) fun r9 σ10 => some ((x4 * (gF σ10 1472)), σ10)))) else gd (inb x1 10) (bnd (f_W_driftFits F σ x6 (gA σ 55 (Int.toNat x1)) x2) fun r11 σ12 => gd (rng r11) (if r11 = 0 then bv (x6 + 1) fun x6_13 => self σ12 x1 x2 x4 x5 x6_13 else bv (x4 + 1) fun x4_14 => gd (rng x5 ∧ rng (-1)) (if x5 = (-1) then bv (x6 + 1) fun x6_16 => self σ12 x1 x2 x4_14 x6 x6_16 else bv (x6 + 1) fun x6_15 => self σ12 x1 x2 x4_14 x5 x6_15))))
def l_W_tracks_64 (F : Nat) : Nat → St → Int → Int → Int → Int → Int → Option (Int × St)
  | 0 => fun _ _ _ _ _ _ => none
  | n + 1 => fun σ x1 x2 x4 x5 x6 => b_W_tracks_64 F (l_W_tracks_64 F n) σ x1 x2 x4 x5 x6
def f_W_tracks (F : Nat) (σ : St) (x1 : Int) : Option (Int × St) := bnd (f_W_takeReadings F σ) fun r1 σ2 => bnd (f_Scene_hasHearer_scene0 F σ2 x1) fun r3 σ4 => gd (rng r3) (if r3 = 0 then some ((-1), σ4) else gd (rng r1 ∧ rng 1) (if r1 < 1 then some ((-1), σ4) else gd (rng r1 ∧ rng 8) (if r1 ≤ 8 then gd (inb x1 10) (gd (rng (gA σ4 59 (Int.toNat x1))) (if (gA σ4 59 (Int.toNat x1)) = 0 then bnd (f_W_tracksOfDeaf F σ4 r1) fun r17 σ18 => some (r17, σ18) else l_W_tracks_64 F F σ4 x1 r1 0 (-1) 0)) else some ((-1), σ4))))
set_option maxRecDepth 100000 in
set_option maxHeartbeats 4000000 in
theorem cb_W_tracks_64 {K : KX} {x : Bool} (F : Nat) (self : St → Int → Int → Int → Int → Int → Option (Int × St)) (hself : ∀ σ x1 x2 x4 x5 x6, WA 3 0 1 cX10_tracks RX10 7 (some .int) (LYC x false false) (LYC x false false) K 64 [some (.ref 0), some (vi x1), some (vi x2), some (.ref 23), some (vi x4), some (vi x5), some (vi x6)] [] σ (self σ x1 x2 x4 x5 x6)) (σ : St) (x1 x2 x4 x5 x6 : Int) : WA 3 0 1 cX10_tracks RX10 7 (some .int) (LYC x false false) (LYC x false false) K 64 [some (.ref 0), some (vi x1), some (vi x2), some (.ref 23), some (vi x4), some (vi x5), some (vi x6)] [] σ (b_W_tracks_64 F self σ x1 x2 x4 x5 x6) := by
  unfold b_W_tracks_64
  refine a_iload dX10_tracks_64 rfl ?_
  refine a_aload_n dX10_tracks_66 rfl ?_
  refine a_getI fl_X10_185 lyC_23 rfl dX10_tracks_67 (key := 1472) rfl ?_
  refine a_icmp_ge dX10_tracks_70 rfl (fun _ => ?_) (fun _ => ?_)
  · refine a_iload dX10_tracks_116 rfl ?_
    refine a_if_le dX10_tracks_118 rfl (fun _ => ?_) (fun _ => ?_)
    · refine a_iload dX10_tracks_160 rfl ?_
      refine a_aload_n dX10_tracks_162 rfl ?_
      refine a_getI fl_X10_185 lyC_23 rfl dX10_tracks_163 (key := 1472) rfl ?_
      refine a_imul dX10_tracks_166 ?_
      exact a_iret dX10_tracks_167
    refine a_aload_n dX10_tracks_121 rfl ?_
    refine a_getR (c0 := 94) fl_X10_69 lyC_0 rfl dX10_tracks_122 (key := 10) rfl ?_
    refine a_iconst dX10_tracks_125 ?_
    refine a_iald lyC_94 rfl dX10_tracks_126 ?_
    refine a_aload_n dX10_tracks_127 rfl ?_
    refine a_getR (c0 := 79) fl_X10_26 lyC_0 rfl dX10_tracks_128 (key := 2) rfl ?_
    refine a_getR (c0 := 59) fl_X10_131 lyC_79 rfl dX10_tracks_131 (key := 5061) rfl ?_
    refine a_iload_n dX10_tracks_134 rfl ?_
    refine a_iald lyC_59 rfl dX10_tracks_135 ?_
    refine a_aload_n dX10_tracks_136 rfl ?_
    refine a_getI fl_X10_178 lyC_23 rfl dX10_tracks_137 (key := 1473) rfl ?_
    refine a_callSi (as := [vi (gA σ 59 (Int.toNat x1)), vi (gF σ 1473)]) mf_X10_254 (c_W_inverse F _ _ _) LYsame.rf dX10_tracks_140 rfl rfl rfl rfl rfl rfl (Or.inl rfl) fun r5 σ6 => ?_
    refine a_aload_n dX10_tracks_143 rfl ?_
    refine a_getI fl_X10_178 lyC_23 rfl dX10_tracks_144 (key := 1473) rfl ?_
    refine a_callSi (as := [vi (gA σ 94 (Int.toNat 0)), vi r5, vi (gF σ6 1473)]) mf_X10_257 (c_W_product F _ _ _ _) LYsame.rf dX10_tracks_147 rfl rfl rfl rfl rfl rfl (Or.inl rfl) fun r7 σ8 => ?_
    refine a_istore (L' := [some (.ref 0), some (vi x1), some (vi x2), some (.ref 23), some (vi x4), some (vi x5), some (vi r7)]) dX10_tracks_150 rfl rfl rfl rfl ?_
    refine a_aload_n dX10_tracks_152 rfl ?_
    refine a_iload dX10_tracks_153 rfl ?_
    refine a_iload dX10_tracks_155 rfl ?_
    refine a_callVv (as := [vi x5, vi r7]) mf_X10_261 lyC_0 rfl (c_W_tellTrack F _ _ _) LYsame.rf dX10_tracks_157 rfl rfl rfl rfl rfl rfl (Or.inl rfl) fun r9 σ10 => ?_
    refine a_iload dX10_tracks_160 rfl ?_
    refine a_aload_n dX10_tracks_162 rfl ?_
    refine a_getI fl_X10_185 lyC_23 rfl dX10_tracks_163 (key := 1472) rfl ?_
    refine a_imul dX10_tracks_166 ?_
    exact a_iret dX10_tracks_167
  refine a_aload_n dX10_tracks_73 rfl ?_
  refine a_iload dX10_tracks_74 rfl ?_
  refine a_aload_n dX10_tracks_76 rfl ?_
  refine a_getR (c0 := 79) fl_X10_26 lyC_0 rfl dX10_tracks_77 (key := 2) rfl ?_
  refine a_getR (c0 := 55) fl_X10_128 lyC_79 rfl dX10_tracks_80 (key := 5060) rfl ?_
  refine a_iload_n dX10_tracks_83 rfl ?_
  refine a_iald lyC_55 rfl dX10_tracks_84 ?_
  refine a_iload_n dX10_tracks_85 rfl ?_
  refine a_callVi (as := [vi x6, vi (gA σ 55 (Int.toNat x1)), vi x2]) mf_X10_250 lyC_0 rfl (c_W_driftFits F _ _ _ _) LYsame.rf dX10_tracks_86 rfl rfl rfl rfl rfl rfl (Or.inl rfl) fun r11 σ12 => ?_
  refine a_if_eq dX10_tracks_89 rfl (fun _ => ?_) (fun _ => ?_)
  · refine a_bv fun x6_13 ex6_13 => ?_
    refine a_iinc (y := x6_13) (L' := [some (.ref 0), some (vi x1), some (vi x2), some (.ref 23), some (vi x4), some (vi x5), some (vi x6_13)]) dX10_tracks_110 rfl ex6_13 rfl rfl rfl ?_
    refine a_goto dX10_tracks_113 rfl ?_
    exact hself _ _ _ _ _ _
  refine a_bv fun x4_14 ex4_14 => ?_
  refine a_iinc (y := x4_14) (L' := [some (.ref 0), some (vi x1), some (vi x2), some (.ref 23), some (vi x4_14), some (vi x5), some (vi x6)]) dX10_tracks_92 rfl ex4_14 rfl rfl rfl ?_
  refine a_iload dX10_tracks_95 rfl ?_
  refine a_iconst dX10_tracks_97 ?_
  refine a_icmp_ne dX10_tracks_98 rfl (fun _ => ?_) (fun _ => ?_)
  · refine a_iload dX10_tracks_106 rfl ?_
    refine a_istore (L' := [some (.ref 0), some (vi x1), some (vi x2), some (.ref 23), some (vi x4_14), some (vi x5), some (vi x6)]) dX10_tracks_108 rfl rfl rfl rfl ?_
    refine a_bv fun x6_15 ex6_15 => ?_
    refine a_iinc (y := x6_15) (L' := [some (.ref 0), some (vi x1), some (vi x2), some (.ref 23), some (vi x4_14), some (vi x5), some (vi x6_15)]) dX10_tracks_110 rfl ex6_15 rfl rfl rfl ?_
    refine a_goto dX10_tracks_113 rfl ?_
    exact hself _ _ _ _ _ _
  refine a_iload dX10_tracks_101 rfl ?_
  refine a_goto dX10_tracks_103 rfl ?_
  refine a_istore (L' := [some (.ref 0), some (vi x1), some (vi x2), some (.ref 23), some (vi x4_14), some (vi x6), some (vi x6)]) dX10_tracks_108 rfl rfl rfl rfl ?_
  refine a_bv fun x6_16 ex6_16 => ?_
  refine a_iinc (y := x6_16) (L' := [some (.ref 0), some (vi x1), some (vi x2), some (.ref 23), some (vi x4_14), some (vi x6), some (vi x6_16)]) dX10_tracks_110 rfl ex6_16 rfl rfl rfl ?_
  refine a_goto dX10_tracks_113 rfl ?_
  exact hself _ _ _ _ _ _
set_option maxRecDepth 100000 in
set_option maxHeartbeats 4000000 in
theorem cl_W_tracks_64 {K : KX} {x : Bool} (F : Nat) : ∀ (n : Nat) (σ : St) (x1 x2 x4 x5 x6 : Int), WA 3 0 1 cX10_tracks RX10 7 (some .int) (LYC x false false) (LYC x false false) K 64 [some (.ref 0), some (vi x1), some (vi x2), some (.ref 23), some (vi x4), some (vi x5), some (vi x6)] [] σ (l_W_tracks_64 F n σ x1 x2 x4 x5 x6)
  | 0, _, _, _, _, _, _ => a_none
  | n + 1, σ, x1, x2, x4, x5, x6 => cb_W_tracks_64 F _ (cl_W_tracks_64 F n) σ x1 x2 x4 x5 x6
set_option maxRecDepth 100000 in
set_option maxHeartbeats 4000000 in
theorem c_W_tracks {x : Bool} (F : Nat) (σ : St) (x1 : Int) : Ct 3 0 1 yX10_tracks cX10_tracks 7 (some .int) (LYC x false false) (LYC x false false) [.ref 0, vi x1] σ (f_W_tracks F σ x1) := by
  unfold f_W_tracks
  refine Ct_of (d := 3) (kp := 0) (kd := 1) (own := RX10) (nL := 7) (ret := (some .int)) (LY := (LYC x false false)) (LYe := (LYC x false false)) (L := [some (.ref 0), some (vi x1), none, none, none, none, none]) rfl (by decide +kernel) rfl rfl mf_L_124.2.2.2.1 rfl fun K => ?_
  refine a_aload_n dX10_tracks_0 rfl ?_
  refine a_callVi (as := []) mf_X10_244 lyC_0 rfl (c_W_takeReadings F _) LYsame.rf dX10_tracks_1 rfl rfl rfl rfl rfl rfl (Or.inl rfl) fun r1 σ2 => ?_
  refine a_istore_n (L' := [some (.ref 0), some (vi x1), some (vi r1), none, none, none, none]) dX10_tracks_4 rfl rfl rfl rfl ?_
  refine a_aload_n dX10_tracks_5 rfl ?_
  refine a_getR (c0 := 79) fl_X10_26 lyC_0 rfl dX10_tracks_6 (key := 2) rfl ?_
  refine a_iload_n dX10_tracks_9 rfl ?_
  refine a_callVi (as := [vi x1]) mf_X10_121 lyC_79 rfl (c_Scene_hasHearer_scene0 F _ _) LYsame.rf dX10_tracks_10 rfl rfl rfl rfl rfl rfl (Or.inl rfl) fun r3 σ4 => ?_
  refine a_if_eq dX10_tracks_13 rfl (fun _ => ?_) (fun _ => ?_)
  · refine a_iconst dX10_tracks_27 ?_
    exact a_iret dX10_tracks_28
  refine a_iload_n dX10_tracks_16 rfl ?_
  refine a_iconst dX10_tracks_17 ?_
  refine a_icmp_lt dX10_tracks_18 rfl (fun _ => ?_) (fun _ => ?_)
  · refine a_iconst dX10_tracks_27 ?_
    exact a_iret dX10_tracks_28
  refine a_iload_n dX10_tracks_21 rfl ?_
  refine a_bipush dX10_tracks_22 bi_8 ?_
  refine a_icmp_le dX10_tracks_24 rfl (fun _ => ?_) (fun _ => ?_)
  · refine a_aload_n dX10_tracks_29 rfl ?_
    refine a_getR (c0 := 79) fl_X10_26 lyC_0 rfl dX10_tracks_30 (key := 2) rfl ?_
    refine a_getR (c0 := 23) fl_X10_153 lyC_79 rfl dX10_tracks_33 (key := 5056) rfl ?_
    refine a_astore_n (L' := [some (.ref 0), some (vi x1), some (vi r1), some (.ref 23), none, none, none]) dX10_tracks_36 rfl rfl rfl rfl ?_
    refine a_aload_n dX10_tracks_37 rfl ?_
    refine a_getR (c0 := 79) fl_X10_26 lyC_0 rfl dX10_tracks_38 (key := 2) rfl ?_
    refine a_getR (c0 := 59) fl_X10_131 lyC_79 rfl dX10_tracks_41 (key := 5061) rfl ?_
    refine a_iload_n dX10_tracks_44 rfl ?_
    refine a_iald lyC_59 rfl dX10_tracks_45 ?_
    refine a_if_ne dX10_tracks_46 rfl (fun _ => ?_) (fun _ => ?_)
    · refine a_iconst dX10_tracks_55 ?_
      refine a_istore (L' := [some (.ref 0), some (vi x1), some (vi r1), some (.ref 23), some (vi 0), none, none]) dX10_tracks_56 rfl rfl rfl rfl ?_
      refine a_iconst dX10_tracks_58 ?_
      refine a_istore (L' := [some (.ref 0), some (vi x1), some (vi r1), some (.ref 23), some (vi 0), some (vi (-1)), none]) dX10_tracks_59 rfl rfl rfl rfl ?_
      refine a_iconst dX10_tracks_61 ?_
      refine a_istore (L' := [some (.ref 0), some (vi x1), some (vi r1), some (.ref 23), some (vi 0), some (vi (-1)), some (vi 0)]) dX10_tracks_62 rfl rfl rfl rfl ?_
      exact cl_W_tracks_64 F F _ _ _ _ _ _
    refine a_aload_n dX10_tracks_49 rfl ?_
    refine a_iload_n dX10_tracks_50 rfl ?_
    refine a_callVi (as := [vi r1]) mf_X10_247 lyC_0 rfl (c_W_tracksOfDeaf F _ _) LYsame.rf dX10_tracks_51 rfl rfl rfl rfl rfl rfl (Or.inl rfl) fun r17 σ18 => ?_
    exact a_iret dX10_tracks_54
  refine a_iconst dX10_tracks_27 ?_
  exact a_iret dX10_tracks_28
