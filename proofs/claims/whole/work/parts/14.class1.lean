def f_Tape_hasRoom (F : Nat) (σ : St) : Option (Int × St) := gd (rng ((gF σ 65) + 20) ∧ rng 940) (if (940 : Int) < ((gF σ 65) + 20) then some (0, σ) else some (1, σ))
set_option maxRecDepth 100000 in
set_option maxHeartbeats 4000000 in
theorem c_Tape_hasRoom {x : Bool} (F : Nat) (σ : St) : Ct 1 0 1 yX8_hasRoom cX8_hasRoom 1 (some .boolean) (LYC x false false) (LYC x false false) [.ref 1] σ (f_Tape_hasRoom F σ) := by
  unfold f_Tape_hasRoom
  refine Ct_of (d := 1) (kp := 0) (kd := 1) (own := RX8) (nL := 1) (ret := (some .boolean)) (LY := (LYC x false false)) (LYe := (LYC x false false)) (L := [some (.ref 1)]) rfl (by decide +kernel) rfl rfl mf_X10_101.2.2.2.1 rfl fun K => ?_
  refine a_aload_n dX8_hasRoom_0 rfl ?_
  refine a_getI fl_X8_13 lyC_1 rfl dX8_hasRoom_1 (key := 65) rfl ?_
  refine a_bipush dX8_hasRoom_4 bi_20 ?_
  refine a_iadd dX8_hasRoom_6 ?_
  refine a_sipush dX8_hasRoom_7 si_940 ?_
  refine a_icmp_gt dX8_hasRoom_10 rfl (fun _ => ?_) (fun _ => ?_)
  · refine a_iconst dX8_hasRoom_17 ?_
    exact a_zretc (by decide) dX8_hasRoom_18
  refine a_iconst dX8_hasRoom_13 ?_
  refine a_goto dX8_hasRoom_14 rfl ?_
  exact a_zretc (by decide) dX8_hasRoom_18
def b_Tape_put_3 (F : Nat) (self : St → Int → Int → Option (Int × St)) (σ : St) (x1 x2 : Int) : Option (Int × St) := gd (rng x2) (if x2 < 0 then some (0, σ) else gd (rng (gF σ 65) ∧ rng 940) (if (940 : Int) ≤ (gF σ 65) then some (0, σ) else gd (sh5 x2) (bv (x1 % 4294967296 / 2 ^ (Int.toNat x2)) fun t1 => gd (inb (gF σ 65) 940) (bs (sA σ 2 (Int.toNat (gF σ 65)) (iandI t1 255)) fun σ2 => bs (sF σ2 65 ((gF σ2 65) + 1)) fun σ3 => bv (x2 + (-8)) fun x2_4 => self σ3 x1 x2_4))))
def l_Tape_put_3 (F : Nat) : Nat → St → Int → Int → Option (Int × St)
  | 0 => fun _ _ _ => none
  | n + 1 => fun σ x1 x2 => b_Tape_put_3 F (l_Tape_put_3 F n) σ x1 x2
def f_Tape_put (F : Nat) (σ : St) (x1 : Int) : Option (Int × St) := l_Tape_put_3 F F σ x1 24
set_option maxRecDepth 100000 in
set_option maxHeartbeats 4000000 in
theorem cb_Tape_put_3 {K : KX} {x : Bool} (F : Nat) (self : St → Int → Int → Option (Int × St)) (hself : ∀ σ x1 x2, WA 1 0 0 cX8_put RX8 3 none (LYC x false false) (LYC x false false) K 3 [some (.ref 1), some (vi x1), some (vi x2)] [] σ (self σ x1 x2)) (σ : St) (x1 x2 : Int) : WA 1 0 0 cX8_put RX8 3 none (LYC x false false) (LYC x false false) K 3 [some (.ref 1), some (vi x1), some (vi x2)] [] σ (b_Tape_put_3 F self σ x1 x2) := by
  unfold b_Tape_put_3
  refine a_iload_n dX8_put_3 rfl ?_
  refine a_if_lt dX8_put_4 rfl (fun _ => ?_) (fun _ => ?_)
  · exact a_vret dX8_put_49
  refine a_aload_n dX8_put_7 rfl ?_
  refine a_getI fl_X8_13 lyC_1 rfl dX8_put_8 (key := 65) rfl ?_
  refine a_sipush dX8_put_11 si_940 ?_
  refine a_icmp_ge dX8_put_14 rfl (fun _ => ?_) (fun _ => ?_)
  · exact a_vret dX8_put_49
  refine a_aload_n dX8_put_17 rfl ?_
  refine a_getR (c0 := 2) fl_X8_9 lyC_1 rfl dX8_put_18 (key := 64) rfl ?_
  refine a_aload_n dX8_put_21 rfl ?_
  refine a_getI fl_X8_13 lyC_1 rfl dX8_put_22 (key := 65) rfl ?_
  refine a_iload_n dX8_put_25 rfl ?_
  refine a_iload_n dX8_put_26 rfl ?_
  refine a_iushr dX8_put_27 (fun _ => ?_)
  refine a_bvi fun t1 => ?_
  refine a_sipush dX8_put_28 si_255 ?_
  refine a_iand dX8_put_31 ?_
  refine a_iast lyC_2 rfl dX8_put_32 fun σ2 => ?_
  refine a_aload_n dX8_put_33 rfl ?_
  refine a_dup dX8_put_34 rfl ?_
  refine a_getI fl_X8_13 lyC_1 rfl dX8_put_35 (key := 65) rfl ?_
  refine a_iconst dX8_put_38 ?_
  refine a_iadd dX8_put_39 ?_
  refine a_putI fl_X8_13 cf_X8 rfl rfl lyC_1 rfl dX8_put_40 (key := 65) rfl fun σ3 => ?_
  refine a_bv fun x2_4 ex2_4 => ?_
  refine a_iinc (y := x2_4) (L' := [some (.ref 1), some (vi x1), some (vi x2_4)]) dX8_put_43 rfl ex2_4 rfl rfl rfl ?_
  refine a_goto dX8_put_46 rfl ?_
  exact hself _ _ _
set_option maxRecDepth 100000 in
set_option maxHeartbeats 4000000 in
theorem cl_Tape_put_3 {K : KX} {x : Bool} (F : Nat) : ∀ (n : Nat) (σ : St) (x1 x2 : Int), WA 1 0 0 cX8_put RX8 3 none (LYC x false false) (LYC x false false) K 3 [some (.ref 1), some (vi x1), some (vi x2)] [] σ (l_Tape_put_3 F n σ x1 x2)
  | 0, _, _, _ => a_none
  | n + 1, σ, x1, x2 => cb_Tape_put_3 F _ (cl_Tape_put_3 F n) σ x1 x2
set_option maxRecDepth 100000 in
set_option maxHeartbeats 4000000 in
theorem c_Tape_put {x : Bool} (F : Nat) (σ : St) (x1 : Int) : Ct 1 0 0 yX8_put cX8_put 3 none (LYC x false false) (LYC x false false) [.ref 1, vi x1] σ (f_Tape_put F σ x1) := by
  unfold f_Tape_put
  refine Ct_of (d := 1) (kp := 0) (kd := 0) (own := RX8) (nL := 3) (ret := none) (LY := (LYC x false false)) (LYe := (LYC x false false)) (L := [some (.ref 1), some (vi x1), none]) rfl (by decide +kernel) rfl rfl mf_X10_105.2.2.2.1 rfl fun K => ?_
  refine a_bipush dX8_put_0 bi_24 ?_
  refine a_istore_n (L' := [some (.ref 1), some (vi x1), some (vi 24)]) dX8_put_2 rfl rfl rfl rfl ?_
  exact cl_Tape_put_3 F F _ _ _
def f_W_feed (F : Nat) (σ : St) (x1 x2 x3 x4 x5 : Int) : Option (Int × St) := bnd (f_Tape_hasRoom F σ) fun r1 σ2 => gd (rng r1) (if r1 = 0 then some ((-1), σ2) else bnd (f_Tape_put F σ2 x1) fun r3 σ4 => bnd (f_Tape_put F σ4 x2) fun r5 σ6 => bnd (f_Tape_put F σ6 x3) fun r7 σ8 => bnd (f_Tape_put F σ8 x4) fun r9 σ10 => bnd (f_Tape_put F σ10 x5) fun r11 σ12 => some ((gF σ12 65), σ12))
set_option maxRecDepth 100000 in
set_option maxHeartbeats 4000000 in
theorem c_W_feed {x : Bool} (F : Nat) (σ : St) (x1 x2 x3 x4 x5 : Int) : Ct 2 0 1 yX10_feed cX10_feed 6 (some .int) (LYC x false false) (LYC x false false) [.ref 0, vi x1, vi x2, vi x3, vi x4, vi x5] σ (f_W_feed F σ x1 x2 x3 x4 x5) := by
  unfold f_W_feed
  refine Ct_of (d := 2) (kp := 0) (kd := 1) (own := RX10) (nL := 6) (ret := (some .int)) (LY := (LYC x false false)) (LYe := (LYC x false false)) (L := [some (.ref 0), some (vi x1), some (vi x2), some (vi x3), some (vi x4), some (vi x5)]) rfl (by decide +kernel) rfl rfl mf_L_26.2.2.2.1 rfl fun K => ?_
  refine a_aload_n dX10_feed_0 rfl ?_
  refine a_getR (c0 := 1) fl_X10_10 lyC_0 rfl dX10_feed_1 (key := 0) rfl ?_
  refine a_callVi (as := []) mf_X10_101 lyC_1 rfl (c_Tape_hasRoom F _) LYsame.rf dX10_feed_4 rfl rfl rfl rfl rfl rfl (Or.inl rfl) fun r1 σ2 => ?_
  refine a_if_ne dX10_feed_7 rfl (fun _ => ?_) (fun _ => ?_)
  · refine a_aload_n dX10_feed_12 rfl ?_
    refine a_getR (c0 := 1) fl_X10_10 lyC_0 rfl dX10_feed_13 (key := 0) rfl ?_
    refine a_iload_n dX10_feed_16 rfl ?_
    refine a_callVv (as := [vi x1]) mf_X10_105 lyC_1 rfl (c_Tape_put F _ _) LYsame.rf dX10_feed_17 rfl rfl rfl rfl rfl rfl (Or.inl rfl) fun r3 σ4 => ?_
    refine a_aload_n dX10_feed_20 rfl ?_
    refine a_getR (c0 := 1) fl_X10_10 lyC_0 rfl dX10_feed_21 (key := 0) rfl ?_
    refine a_iload_n dX10_feed_24 rfl ?_
    refine a_callVv (as := [vi x2]) mf_X10_105 lyC_1 rfl (c_Tape_put F _ _) LYsame.rf dX10_feed_25 rfl rfl rfl rfl rfl rfl (Or.inl rfl) fun r5 σ6 => ?_
    refine a_aload_n dX10_feed_28 rfl ?_
    refine a_getR (c0 := 1) fl_X10_10 lyC_0 rfl dX10_feed_29 (key := 0) rfl ?_
    refine a_iload_n dX10_feed_32 rfl ?_
    refine a_callVv (as := [vi x3]) mf_X10_105 lyC_1 rfl (c_Tape_put F _ _) LYsame.rf dX10_feed_33 rfl rfl rfl rfl rfl rfl (Or.inl rfl) fun r7 σ8 => ?_
    refine a_aload_n dX10_feed_36 rfl ?_
    refine a_getR (c0 := 1) fl_X10_10 lyC_0 rfl dX10_feed_37 (key := 0) rfl ?_
    refine a_iload dX10_feed_40 rfl ?_
    refine a_callVv (as := [vi x4]) mf_X10_105 lyC_1 rfl (c_Tape_put F _ _) LYsame.rf dX10_feed_42 rfl rfl rfl rfl rfl rfl (Or.inl rfl) fun r9 σ10 => ?_
    refine a_aload_n dX10_feed_45 rfl ?_
    refine a_getR (c0 := 1) fl_X10_10 lyC_0 rfl dX10_feed_46 (key := 0) rfl ?_
    refine a_iload dX10_feed_49 rfl ?_
    refine a_callVv (as := [vi x5]) mf_X10_105 lyC_1 rfl (c_Tape_put F _ _) LYsame.rf dX10_feed_51 rfl rfl rfl rfl rfl rfl (Or.inl rfl) fun r11 σ12 => ?_
    refine a_aload_n dX10_feed_54 rfl ?_
    refine a_getR (c0 := 1) fl_X10_10 lyC_0 rfl dX10_feed_55 (key := 0) rfl ?_
    refine a_getI fl_X10_108 lyC_1 rfl dX10_feed_58 (key := 65) rfl ?_
    exact a_iret dX10_feed_61
  refine a_iconst dX10_feed_10 ?_
  exact a_iret dX10_feed_11
def f_W_end (F : Nat) (σ : St) (x1 : Int) : Option (Int × St) := gd (rng x1) (if x1 < 0 then some (0, σ) else gd (rng x1 ∧ rng (gF σ 65)) (if x1 ≤ (gF σ 65) then bs (sF σ 65 x1) fun σ1 => some (1, σ1) else some (0, σ)))
set_option maxRecDepth 100000 in
set_option maxHeartbeats 4000000 in
theorem c_W_end {x : Bool} (F : Nat) (σ : St) (x1 : Int) : Ct 1 0 1 yX10_end cX10_end 2 (some .boolean) (LYC x false false) (LYC x false false) [.ref 0, vi x1] σ (f_W_end F σ x1) := by
  unfold f_W_end
  refine Ct_of (d := 1) (kp := 0) (kd := 1) (own := RX10) (nL := 2) (ret := (some .boolean)) (LY := (LYC x false false)) (LYe := (LYC x false false)) (L := [some (.ref 0), some (vi x1)]) rfl (by decide +kernel) rfl rfl mf_L_31.2.2.2.1 rfl fun K => ?_
  refine a_iload_n dX10_end_0 rfl ?_
  refine a_if_lt dX10_end_1 rfl (fun _ => ?_) (fun _ => ?_)
  · refine a_iconst dX10_end_15 ?_
    exact a_zretc (by decide) dX10_end_16
  refine a_iload_n dX10_end_4 rfl ?_
  refine a_aload_n dX10_end_5 rfl ?_
  refine a_getR (c0 := 1) fl_X10_10 lyC_0 rfl dX10_end_6 (key := 0) rfl ?_
  refine a_getI fl_X10_108 lyC_1 rfl dX10_end_9 (key := 65) rfl ?_
  refine a_icmp_le dX10_end_12 rfl (fun _ => ?_) (fun _ => ?_)
  · refine a_aload_n dX10_end_17 rfl ?_
    refine a_getR (c0 := 1) fl_X10_10 lyC_0 rfl dX10_end_18 (key := 0) rfl ?_
    refine a_iload_n dX10_end_21 rfl ?_
    refine a_putI fl_X10_108 cf_X8 rfl rfl lyC_1 rfl dX10_end_22 (key := 65) rfl fun σ1 => ?_
    refine a_iconst dX10_end_25 ?_
    exact a_zretc (by decide) dX10_end_26
  refine a_iconst dX10_end_15 ?_
  exact a_zretc (by decide) dX10_end_16
def f_Scene_clear_scene1 (F : Nat) (σ : St) : Option (Int × St) := bs (sF σ 5122 0) fun σ1 => bs (sF σ1 5123 0) fun σ2 => bs (sF σ2 5126 0) fun σ3 => bs (sF σ3 2048 0) fun σ4 => bs (sF σ4 2051 0) fun σ5 => some (0, σ5)
set_option maxRecDepth 100000 in
set_option maxHeartbeats 4000000 in
theorem c_Scene_clear_scene1 {x : Bool} (F : Nat) (σ : St) : Ct 1 0 0 yX7_clear cX7_clear 1 none (LYC x false false) (LYC x false false) [.ref 80] σ (f_Scene_clear_scene1 F σ) := by
  unfold f_Scene_clear_scene1
  refine Ct_of (d := 1) (kp := 0) (kd := 0) (own := RX7) (nL := 1) (ret := none) (LY := (LYC x false false)) (LYe := (LYC x false false)) (L := [some (.ref 80)]) rfl (by decide +kernel) rfl rfl mf_X4_30.2.2.2.1 rfl fun K => ?_
  refine a_aload_n dX7_clear_0 rfl ?_
  refine a_iconst dX7_clear_1 ?_
  refine a_putI fl_X7_44 cf_X7 rfl rfl lyC_80 rfl dX7_clear_2 (key := 5122) rfl fun σ1 => ?_
  refine a_aload_n dX7_clear_5 rfl ?_
  refine a_iconst dX7_clear_6 ?_
  refine a_putI fl_X7_48 cf_X7 rfl rfl lyC_80 rfl dX7_clear_7 (key := 5123) rfl fun σ2 => ?_
  refine a_aload_n dX7_clear_10 rfl ?_
  refine a_iconst dX7_clear_11 ?_
  refine a_putI fl_X7_51 cf_X7 rfl rfl lyC_80 rfl dX7_clear_12 (key := 5126) rfl fun σ3 => ?_
  refine a_aload_n dX7_clear_15 rfl ?_
  refine a_getR (c0 := 32) fl_X7_21 lyC_80 rfl dX7_clear_16 (key := 5121) rfl ?_
  refine a_iconst dX7_clear_19 ?_
  refine a_putI fl_X7_54 cf_X0 rfl rfl lyC_32 rfl dX7_clear_20 (key := 2048) rfl fun σ4 => ?_
  refine a_aload_n dX7_clear_23 rfl ?_
  refine a_getR (c0 := 32) fl_X7_21 lyC_80 rfl dX7_clear_24 (key := 5121) rfl ?_
  refine a_iconst dX7_clear_27 ?_
  refine a_putI fl_X7_57 cf_X0 rfl rfl lyC_32 rfl dX7_clear_28 (key := 2051) rfl fun σ5 => ?_
  exact a_vret dX7_clear_31
def b_Reader_readRun_177 (F : Nat) (σ : St) (x1 x2 : Int) : Option (Int × St) := gd (rng (x1 + x2)) (if (x1 + x2) ≤ 0 then some (0, σ) else some (1, σ))
def b_Reader_readRun_155 (F : Nat) (σ : St) (x1 x2 x3 x4 : Int) : Option (Int × St) := gd (rng x3) (if x3 = 0 then gd (rng x4) (if x4 = 0 then bs (sF σ 197 1) fun σ3 => b_Reader_readRun_177 F σ3 x1 x2 else bs (sF σ 197 3) fun σ4 => b_Reader_readRun_177 F σ4 x1 x2) else bs (sF σ 197 2) fun σ5 => b_Reader_readRun_177 F σ5 x1 x2)
def b_Reader_readRun_139 (F : Nat) (σ : St) (x1 x2 x3 : Int) : Option (Int × St) := gd (rng x1) (if x1 = 0 then gd (rng x2 ∧ rng 3) (if (3 : Int) < x2 then b_Reader_readRun_155 F σ x1 x2 x3 0 else b_Reader_readRun_155 F σ x1 x2 x3 1) else b_Reader_readRun_155 F σ x1 x2 x3 0)
def b_Reader_readRun_123 (F : Nat) (σ : St) (x1 x2 : Int) : Option (Int × St) := gd (rng x2) (if x2 = 0 then gd (rng x1 ∧ rng 7) (if (7 : Int) < x1 then b_Reader_readRun_139 F σ x1 x2 0 else b_Reader_readRun_139 F σ x1 x2 1) else b_Reader_readRun_139 F σ x1 x2 0)
def b_Reader_readRun_110 (F : Nat) (k14 : St → Int → Int → Option (Int × St)) (σ : St) (x1 x2 : Int) : Option (Int × St) := bs (sF σ 196 ((gF σ 196) + 1)) fun σ9 => k14 σ9 x1 x2
def b_Reader_readRun_14 (F : Nat) (self : St → Int → Int → Option (Int × St)) (σ : St) (x1 x2 : Int) : Option (Int × St) := gd (rng (gF σ 196) ∧ rng (gF σ 195)) (if (gF σ 195) ≤ (gF σ 196) then b_Reader_readRun_123 F σ x1 x2 else gd (inb (gF σ 196) 940) (bv (gA σ 2 (Int.toNat (gF σ 196))) fun t6 => gd (rng t6 ∧ rng 97) (if t6 < 97 then gd (rng t6 ∧ rng 48) (if t6 < 48 then b_Reader_readRun_123 F σ x1 x2 else gd (rng t6 ∧ rng 57) (if (57 : Int) < t6 then b_Reader_readRun_123 F σ x1 x2 else bv (x2 + 1) fun x2_7 => gd (rng x2_7 ∧ rng 3) (if (3 : Int) < x2_7 then bs (sF σ 200 (gF σ 200)) fun σ8 => b_Reader_readRun_110 F self σ8 x1 x2_7 else bv ((((gF σ 200) * 10) + t6) - 48) fun t10 => bs (sF σ 200 t10) fun σ11 => b_Reader_readRun_110 F self σ11 x1 x2_7))) else gd (rng t6 ∧ rng 122) (if (122 : Int) < t6 then gd (rng t6 ∧ rng 48) (if t6 < 48 then b_Reader_readRun_123 F σ x1 x2 else gd (rng t6 ∧ rng 57) (if (57 : Int) < t6 then b_Reader_readRun_123 F σ x1 x2 else bv (x2 + 1) fun x2_12 => gd (rng x2_12 ∧ rng 3) (if (3 : Int) < x2_12 then bs (sF σ 200 (gF σ 200)) fun σ13 => b_Reader_readRun_110 F self σ13 x1 x2_12 else bv ((((gF σ 200) * 10) + t6) - 48) fun t14 => bs (sF σ 200 t14) fun σ15 => b_Reader_readRun_110 F self σ15 x1 x2_12))) else bv (x1 + 1) fun x1_16 => gd (sh6 8) (bv ((gF σ 199) * 2 ^ (Int.toNat 8)) fun t17 => gd (rng t6) (bs (sF σ 199 (lorI t17 t6)) fun σ18 => b_Reader_readRun_110 F self σ18 x1_16 x2))))))
def l_Reader_readRun_14 (F : Nat) : Nat → St → Int → Int → Option (Int × St)
  | 0 => fun _ _ _ => none
  | n + 1 => fun σ x1 x2 => b_Reader_readRun_14 F (l_Reader_readRun_14 F n) σ x1 x2
def f_Reader_readRun (F : Nat) (σ : St) : Option (Int × St) := bs (sF σ 199 0) fun σ1 => bs (sF σ1 200 0) fun σ2 => l_Reader_readRun_14 F F σ2 0 0
set_option maxRecDepth 100000 in
set_option maxHeartbeats 4000000 in
theorem cb_Reader_readRun_177 {K : KX} (F : Nat) (σ : St) (x1 x2 : Int) : WA 1 0 1 cX4_readRun RX4 5 (some .boolean) (LYC true false false) (LYC true false false) K 177 [none, some (vi x1), some (vi x2), none, none] [] σ (b_Reader_readRun_177 F σ x1 x2) := by
  unfold b_Reader_readRun_177
  refine a_iload_n dX4_readRun_177 rfl ?_
  refine a_iload_n dX4_readRun_178 rfl ?_
  refine a_iadd dX4_readRun_179 ?_
  refine a_if_le dX4_readRun_180 rfl (fun _ => ?_) (fun _ => ?_)
  · refine a_iconst dX4_readRun_187 ?_
    exact a_zretc (by decide) dX4_readRun_188
  refine a_iconst dX4_readRun_183 ?_
  refine a_goto dX4_readRun_184 rfl ?_
  exact a_zretc (by decide) dX4_readRun_188
set_option maxRecDepth 100000 in
set_option maxHeartbeats 4000000 in
theorem cb_Reader_readRun_155 {K : KX} (F : Nat) (σ : St) (x1 x2 x3 x4 : Int) : WA 1 0 1 cX4_readRun RX4 5 (some .boolean) (LYC true false false) (LYC true false false) K 155 [some (.ref 3), some (vi x1), some (vi x2), some (vi x3), some (vi x4)] [] σ (b_Reader_readRun_155 F σ x1 x2 x3 x4) := by
  unfold b_Reader_readRun_155
  refine a_aload_n dX4_readRun_155 rfl ?_
  refine a_iload_n dX4_readRun_156 rfl ?_
  refine a_if_eq dX4_readRun_157 rfl (fun _ => ?_) (fun _ => ?_)
  · refine a_iload dX4_readRun_164 rfl ?_
    refine a_if_eq dX4_readRun_166 rfl (fun _ => ?_) (fun _ => ?_)
    · refine a_iconst dX4_readRun_173 ?_
      refine a_putI fl_X4_51 cf_X4 rfl rfl lyC_3 rfl dX4_readRun_174 (key := 197) rfl fun σ3 => ?_
      exact a_L (lsub_get (A := [none, some (vi x1), some (vi x2), none, none]) ⟨rfl, ⟨rfl, trivial⟩⟩) (cb_Reader_readRun_177 F _ _ _)
    refine a_iconst dX4_readRun_169 ?_
    refine a_goto dX4_readRun_170 rfl ?_
    refine a_putI fl_X4_51 cf_X4 rfl rfl lyC_3 rfl dX4_readRun_174 (key := 197) rfl fun σ4 => ?_
    exact a_L (lsub_get (A := [none, some (vi x1), some (vi x2), none, none]) ⟨rfl, ⟨rfl, trivial⟩⟩) (cb_Reader_readRun_177 F _ _ _)
  refine a_iconst dX4_readRun_160 ?_
  refine a_goto dX4_readRun_161 rfl ?_
  refine a_putI fl_X4_51 cf_X4 rfl rfl lyC_3 rfl dX4_readRun_174 (key := 197) rfl fun σ5 => ?_
  exact a_L (lsub_get (A := [none, some (vi x1), some (vi x2), none, none]) ⟨rfl, ⟨rfl, trivial⟩⟩) (cb_Reader_readRun_177 F _ _ _)
set_option maxRecDepth 100000 in
set_option maxHeartbeats 4000000 in
theorem cb_Reader_readRun_139 {K : KX} (F : Nat) (σ : St) (x1 x2 x3 : Int) : WA 1 0 1 cX4_readRun RX4 5 (some .boolean) (LYC true false false) (LYC true false false) K 139 [some (.ref 3), some (vi x1), some (vi x2), some (vi x3), none] [] σ (b_Reader_readRun_139 F σ x1 x2 x3) := by
  unfold b_Reader_readRun_139
  refine a_iload_n dX4_readRun_139 rfl ?_
  refine a_if_ne dX4_readRun_140 rfl (fun _ => ?_) (fun _ => ?_)
  · refine a_iconst dX4_readRun_152 ?_
    refine a_istore (L' := [some (.ref 3), some (vi x1), some (vi x2), some (vi x3), some (vi 0)]) dX4_readRun_153 rfl rfl rfl rfl ?_
    exact cb_Reader_readRun_155 F _ _ _ _ _
  refine a_iload_n dX4_readRun_143 rfl ?_
  refine a_iconst dX4_readRun_144 ?_
  refine a_icmp_gt dX4_readRun_145 rfl (fun _ => ?_) (fun _ => ?_)
  · refine a_iconst dX4_readRun_152 ?_
    refine a_istore (L' := [some (.ref 3), some (vi x1), some (vi x2), some (vi x3), some (vi 0)]) dX4_readRun_153 rfl rfl rfl rfl ?_
    exact cb_Reader_readRun_155 F _ _ _ _ _
  refine a_iconst dX4_readRun_148 ?_
  refine a_goto dX4_readRun_149 rfl ?_
  refine a_istore (L' := [some (.ref 3), some (vi x1), some (vi x2), some (vi x3), some (vi 1)]) dX4_readRun_153 rfl rfl rfl rfl ?_
  exact cb_Reader_readRun_155 F _ _ _ _ _
set_option maxRecDepth 100000 in
set_option maxHeartbeats 4000000 in
theorem cb_Reader_readRun_123 {K : KX} (F : Nat) (σ : St) (x1 x2 : Int) : WA 1 0 1 cX4_readRun RX4 5 (some .boolean) (LYC true false false) (LYC true false false) K 123 [some (.ref 3), some (vi x1), some (vi x2), none, none] [] σ (b_Reader_readRun_123 F σ x1 x2) := by
  unfold b_Reader_readRun_123
  refine a_iload_n dX4_readRun_123 rfl ?_
  refine a_if_ne dX4_readRun_124 rfl (fun _ => ?_) (fun _ => ?_)
  · refine a_iconst dX4_readRun_137 ?_
    refine a_istore_n (L' := [some (.ref 3), some (vi x1), some (vi x2), some (vi 0), none]) dX4_readRun_138 rfl rfl rfl rfl ?_
    exact cb_Reader_readRun_139 F _ _ _ _
  refine a_iload_n dX4_readRun_127 rfl ?_
  refine a_bipush dX4_readRun_128 bi_7 ?_
  refine a_icmp_gt dX4_readRun_130 rfl (fun _ => ?_) (fun _ => ?_)
  · refine a_iconst dX4_readRun_137 ?_
    refine a_istore_n (L' := [some (.ref 3), some (vi x1), some (vi x2), some (vi 0), none]) dX4_readRun_138 rfl rfl rfl rfl ?_
    exact cb_Reader_readRun_139 F _ _ _ _
  refine a_iconst dX4_readRun_133 ?_
  refine a_goto dX4_readRun_134 rfl ?_
  refine a_istore_n (L' := [some (.ref 3), some (vi x1), some (vi x2), some (vi 1), none]) dX4_readRun_138 rfl rfl rfl rfl ?_
  exact cb_Reader_readRun_139 F _ _ _ _
set_option maxRecDepth 100000 in
set_option maxHeartbeats 4000000 in
theorem cb_Reader_readRun_110 {K : KX} (F : Nat) (k14 : St → Int → Int → Option (Int × St)) (h14 : ∀ σ x1 x2, WA 1 0 1 cX4_readRun RX4 5 (some .boolean) (LYC true false false) (LYC true false false) K 14 [some (.ref 3), some (vi x1), some (vi x2), none, none] [] σ (k14 σ x1 x2)) (σ : St) (x1 x2 : Int) : WA 1 0 1 cX4_readRun RX4 5 (some .boolean) (LYC true false false) (LYC true false false) K 110 [some (.ref 3), some (vi x1), some (vi x2), none, none] [] σ (b_Reader_readRun_110 F k14 σ x1 x2) := by
  unfold b_Reader_readRun_110
  refine a_aload_n dX4_readRun_110 rfl ?_
  refine a_dup dX4_readRun_111 rfl ?_
  refine a_getI fl_X4_45 lyC_3 rfl dX4_readRun_112 (key := 196) rfl ?_
  refine a_iconst dX4_readRun_115 ?_
  refine a_iadd dX4_readRun_116 ?_
  refine a_putI fl_X4_45 cf_X4 rfl rfl lyC_3 rfl dX4_readRun_117 (key := 196) rfl fun σ9 => ?_
  refine a_goto dX4_readRun_120 rfl ?_
  exact h14 _ _ _
set_option maxRecDepth 100000 in
set_option maxHeartbeats 4000000 in
theorem cb_Reader_readRun_14 {K : KX} (F : Nat) (self : St → Int → Int → Option (Int × St)) (hself : ∀ σ x1 x2, WA 1 0 1 cX4_readRun RX4 5 (some .boolean) (LYC true false false) (LYC true false false) K 14 [some (.ref 3), some (vi x1), some (vi x2), none, none] [] σ (self σ x1 x2)) (σ : St) (x1 x2 : Int) : WA 1 0 1 cX4_readRun RX4 5 (some .boolean) (LYC true false false) (LYC true false false) K 14 [some (.ref 3), some (vi x1), some (vi x2), none, none] [] σ (b_Reader_readRun_14 F self σ x1 x2) := by
  unfold b_Reader_readRun_14
  refine a_aload_n dX4_readRun_14 rfl ?_
  refine a_getI fl_X4_45 lyC_3 rfl dX4_readRun_15 (key := 196) rfl ?_
  refine a_aload_n dX4_readRun_18 rfl ?_
  refine a_getI fl_X4_29 lyC_3 rfl dX4_readRun_19 (key := 195) rfl ?_
  refine a_icmp_ge dX4_readRun_22 rfl (fun _ => ?_) (fun _ => ?_)
  · exact cb_Reader_readRun_123 F _ _ _
  refine a_aload_n dX4_readRun_25 rfl ?_
  refine a_getR (c0 := 2) fl_X4_9 lyC_3 rfl dX4_readRun_26 (key := 194) rfl ?_
  refine a_aload_n dX4_readRun_29 rfl ?_
  refine a_getI fl_X4_45 lyC_3 rfl dX4_readRun_30 (key := 196) rfl ?_
  refine a_iald lyC_2 rfl dX4_readRun_33 ?_
  refine a_bvi fun t6 => ?_
  refine a_istore_n (L' := [some (.ref 3), some (vi x1), some (vi x2), some (vi t6), none]) dX4_readRun_34 rfl rfl rfl rfl ?_
  refine a_iload_n dX4_readRun_35 rfl ?_
  refine a_bipush dX4_readRun_36 bi_97 ?_
  refine a_icmp_lt dX4_readRun_38 rfl (fun _ => ?_) (fun _ => ?_)
  · refine a_iload_n dX4_readRun_67 rfl ?_
    refine a_bipush dX4_readRun_68 bi_48 ?_
    refine a_icmp_lt dX4_readRun_70 rfl (fun _ => ?_) (fun _ => ?_)
    · exact a_L (lsub_get (A := [some (.ref 3), some (vi x1), some (vi x2), none, none]) ⟨rfl, ⟨rfl, ⟨rfl, trivial⟩⟩⟩) (cb_Reader_readRun_123 F _ _ _)
    refine a_iload_n dX4_readRun_73 rfl ?_
    refine a_bipush dX4_readRun_74 bi_57 ?_
    refine a_icmp_gt dX4_readRun_76 rfl (fun _ => ?_) (fun _ => ?_)
    · exact a_L (lsub_get (A := [some (.ref 3), some (vi x1), some (vi x2), none, none]) ⟨rfl, ⟨rfl, ⟨rfl, trivial⟩⟩⟩) (cb_Reader_readRun_123 F _ _ _)
    refine a_bv fun x2_7 ex2_7 => ?_
    refine a_iinc (y := x2_7) (L' := [some (.ref 3), some (vi x1), some (vi x2_7), some (vi t6), none]) dX4_readRun_79 rfl ex2_7 rfl rfl rfl ?_
    refine a_aload_n dX4_readRun_82 rfl ?_
    refine a_iload_n dX4_readRun_83 rfl ?_
    refine a_iconst dX4_readRun_84 ?_
    refine a_icmp_gt dX4_readRun_85 rfl (fun _ => ?_) (fun _ => ?_)
    · refine a_aload_n dX4_readRun_103 rfl ?_
      refine a_getI fl_X4_121 lyC_3 rfl dX4_readRun_104 (key := 200) rfl ?_
      refine a_putI fl_X4_121 cf_X4 rfl rfl lyC_3 rfl dX4_readRun_107 (key := 200) rfl fun σ8 => ?_
      exact a_L (lsub_get (A := [some (.ref 3), some (vi x1), some (vi x2_7), none, none]) ⟨rfl, ⟨rfl, ⟨rfl, trivial⟩⟩⟩) (cb_Reader_readRun_110 F _ hself _ _ _)
    refine a_aload_n dX4_readRun_88 rfl ?_
    refine a_getI fl_X4_121 lyC_3 rfl dX4_readRun_89 (key := 200) rfl ?_
    refine a_bipush dX4_readRun_92 bi_10 ?_
    refine a_imul dX4_readRun_94 ?_
    refine a_iload_n dX4_readRun_95 rfl ?_
    refine a_iadd dX4_readRun_96 ?_
    refine a_bipush dX4_readRun_97 bi_48 ?_
    refine a_isub dX4_readRun_99 ?_
    refine a_bvi fun t10 => ?_
    refine a_goto dX4_readRun_100 rfl ?_
    refine a_putI fl_X4_121 cf_X4 rfl rfl lyC_3 rfl dX4_readRun_107 (key := 200) rfl fun σ11 => ?_
    exact a_L (lsub_get (A := [some (.ref 3), some (vi x1), some (vi x2_7), none, none]) ⟨rfl, ⟨rfl, ⟨rfl, trivial⟩⟩⟩) (cb_Reader_readRun_110 F _ hself _ _ _)
  refine a_iload_n dX4_readRun_41 rfl ?_
  refine a_bipush dX4_readRun_42 bi_122 ?_
  refine a_icmp_gt dX4_readRun_44 rfl (fun _ => ?_) (fun _ => ?_)
  · refine a_iload_n dX4_readRun_67 rfl ?_
    refine a_bipush dX4_readRun_68 bi_48 ?_
    refine a_icmp_lt dX4_readRun_70 rfl (fun _ => ?_) (fun _ => ?_)
    · exact a_L (lsub_get (A := [some (.ref 3), some (vi x1), some (vi x2), none, none]) ⟨rfl, ⟨rfl, ⟨rfl, trivial⟩⟩⟩) (cb_Reader_readRun_123 F _ _ _)
    refine a_iload_n dX4_readRun_73 rfl ?_
    refine a_bipush dX4_readRun_74 bi_57 ?_
    refine a_icmp_gt dX4_readRun_76 rfl (fun _ => ?_) (fun _ => ?_)
    · exact a_L (lsub_get (A := [some (.ref 3), some (vi x1), some (vi x2), none, none]) ⟨rfl, ⟨rfl, ⟨rfl, trivial⟩⟩⟩) (cb_Reader_readRun_123 F _ _ _)
    refine a_bv fun x2_12 ex2_12 => ?_
    refine a_iinc (y := x2_12) (L' := [some (.ref 3), some (vi x1), some (vi x2_12), some (vi t6), none]) dX4_readRun_79 rfl ex2_12 rfl rfl rfl ?_
    refine a_aload_n dX4_readRun_82 rfl ?_
    refine a_iload_n dX4_readRun_83 rfl ?_
    refine a_iconst dX4_readRun_84 ?_
    refine a_icmp_gt dX4_readRun_85 rfl (fun _ => ?_) (fun _ => ?_)
    · refine a_aload_n dX4_readRun_103 rfl ?_
      refine a_getI fl_X4_121 lyC_3 rfl dX4_readRun_104 (key := 200) rfl ?_
      refine a_putI fl_X4_121 cf_X4 rfl rfl lyC_3 rfl dX4_readRun_107 (key := 200) rfl fun σ13 => ?_
      exact a_L (lsub_get (A := [some (.ref 3), some (vi x1), some (vi x2_12), none, none]) ⟨rfl, ⟨rfl, ⟨rfl, trivial⟩⟩⟩) (cb_Reader_readRun_110 F _ hself _ _ _)
    refine a_aload_n dX4_readRun_88 rfl ?_
    refine a_getI fl_X4_121 lyC_3 rfl dX4_readRun_89 (key := 200) rfl ?_
    refine a_bipush dX4_readRun_92 bi_10 ?_
    refine a_imul dX4_readRun_94 ?_
    refine a_iload_n dX4_readRun_95 rfl ?_
    refine a_iadd dX4_readRun_96 ?_
    refine a_bipush dX4_readRun_97 bi_48 ?_
    refine a_isub dX4_readRun_99 ?_
    refine a_bvi fun t14 => ?_
    refine a_goto dX4_readRun_100 rfl ?_
    refine a_putI fl_X4_121 cf_X4 rfl rfl lyC_3 rfl dX4_readRun_107 (key := 200) rfl fun σ15 => ?_
    exact a_L (lsub_get (A := [some (.ref 3), some (vi x1), some (vi x2_12), none, none]) ⟨rfl, ⟨rfl, ⟨rfl, trivial⟩⟩⟩) (cb_Reader_readRun_110 F _ hself _ _ _)
  refine a_bv fun x1_16 ex1_16 => ?_
  refine a_iinc (y := x1_16) (L' := [some (.ref 3), some (vi x1_16), some (vi x2), some (vi t6), none]) dX4_readRun_47 rfl ex1_16 rfl rfl rfl ?_
  refine a_aload_n dX4_readRun_50 rfl ?_
  refine a_aload_n dX4_readRun_51 rfl ?_
  refine a_getL fl_X4_79 lyC_3 rfl dX4_readRun_52 (key := 199) rfl ?_
  refine a_bipush dX4_readRun_55 bi_8 ?_
  refine a_lshl dX4_readRun_57 (fun _ => ?_)
  refine a_bvl fun t17 => ?_
  refine a_iload_n dX4_readRun_58 rfl ?_
  refine a_i2l dX4_readRun_59 (fun _ => ?_)
  refine a_lor dX4_readRun_60 ?_
  refine a_putL fl_X4_79 cf_X4 rfl rfl lyC_3 rfl dX4_readRun_61 (key := 199) rfl fun σ18 => ?_
  refine a_goto dX4_readRun_64 rfl ?_
  exact a_L (lsub_get (A := [some (.ref 3), some (vi x1_16), some (vi x2), none, none]) ⟨rfl, ⟨rfl, ⟨rfl, trivial⟩⟩⟩) (cb_Reader_readRun_110 F _ hself _ _ _)
set_option maxRecDepth 100000 in
set_option maxHeartbeats 4000000 in
theorem cl_Reader_readRun_14 {K : KX} (F : Nat) : ∀ (n : Nat) (σ : St) (x1 x2 : Int), WA 1 0 1 cX4_readRun RX4 5 (some .boolean) (LYC true false false) (LYC true false false) K 14 [some (.ref 3), some (vi x1), some (vi x2), none, none] [] σ (l_Reader_readRun_14 F n σ x1 x2)
  | 0, _, _, _ => a_none
  | n + 1, σ, x1, x2 => cb_Reader_readRun_14 F _ (cl_Reader_readRun_14 F n) σ x1 x2
set_option maxRecDepth 100000 in
set_option maxHeartbeats 4000000 in
theorem c_Reader_readRun (F : Nat) (σ : St) : Ct 1 0 1 yX4_readRun cX4_readRun 5 (some .boolean) (LYC true false false) (LYC true false false) [.ref 3] σ (f_Reader_readRun F σ) := by
  unfold f_Reader_readRun
  refine Ct_of (d := 1) (kp := 0) (kd := 1) (own := RX4) (nL := 5) (ret := (some .boolean)) (LY := (LYC true false false)) (LYe := (LYC true false false)) (L := [some (.ref 3), none, none, none, none]) rfl (by decide +kernel) rfl rfl mf_X4_195.2.2.2.1 rfl fun K => ?_
  refine a_iconst dX4_readRun_0 ?_
  refine a_istore_n (L' := [some (.ref 3), some (vi 0), none, none, none]) dX4_readRun_1 rfl rfl rfl rfl ?_
  refine a_iconst dX4_readRun_2 ?_
  refine a_istore_n (L' := [some (.ref 3), some (vi 0), some (vi 0), none, none]) dX4_readRun_3 rfl rfl rfl rfl ?_
  refine a_aload_n dX4_readRun_4 rfl ?_
  refine a_lconst (v := 0) dX4_readRun_5 rfl ?_
  refine a_putL fl_X4_79 cf_X4 rfl rfl lyC_3 rfl dX4_readRun_6 (key := 199) rfl fun σ1 => ?_
  refine a_aload_n dX4_readRun_9 rfl ?_
  refine a_iconst dX4_readRun_10 ?_
  refine a_putI fl_X4_121 cf_X4 rfl rfl lyC_3 rfl dX4_readRun_11 (key := 200) rfl fun σ2 => ?_
  exact cl_Reader_readRun_14 F F _ _ _
def b_Reader_advance_11 (F : Nat) (self : St → Int → Option (Int × St)) (σ : St) (x1 : Int) : Option (Int × St) := gd (rng (gF σ 196) ∧ rng x1) (if x1 ≤ (gF σ 196) then gd (rng (gF σ 196) ∧ rng x1) (bv (imin (gF σ 196) x1) fun t2 => bs (sF σ 198 t2) fun σ3 => gd (rng (gF σ3 196) ∧ rng x1) (if (gF σ3 196) < x1 then bnd (f_Reader_readRun F σ3) fun r4 σ5 => gd (rng r4) (if r4 = 0 then gd (inb (gF σ5 196) 940) (bv (gA σ5 2 (Int.toNat (gF σ5 196))) fun t6 => gd (rng t6 ∧ rng 59) (if t6 = 59 then bs (sF σ5 197 4) fun σ11 => bs (sF σ11 196 ((gF σ11 196) + 1)) fun σ12 => some (0, σ12) else gd (rng t6 ∧ rng 45) (if t6 = 45 then bs (sF σ5 197 5) fun σ9 => bs (sF σ9 196 ((gF σ9 196) + 1)) fun σ10 => some (0, σ10) else bs (sF σ5 197 1) fun σ7 => bs (sF σ7 196 ((gF σ7 196) + 1)) fun σ8 => some (0, σ8)))) else some (0, σ5)) else bs (sF σ3 197 0) fun σ13 => some (0, σ13))) else gd (inb (gF σ 196) 940) (bv (gA σ 2 (Int.toNat (gF σ 196))) fun t14 => gd (rng t14 ∧ rng 32) (if t14 = 32 then bs (sF σ 196 ((gF σ 196) + 1)) fun σ15 => self σ15 x1 else gd (inb (gF σ 196) 940) (bv (gA σ 2 (Int.toNat (gF σ 196))) fun t16 => gd (rng t16 ∧ rng 10) (if t16 = 10 then bs (sF σ 196 ((gF σ 196) + 1)) fun σ29 => self σ29 x1 else gd (rng (gF σ 196) ∧ rng x1) (bv (imin (gF σ 196) x1) fun t17 => bs (sF σ 198 t17) fun σ18 => gd (rng (gF σ18 196) ∧ rng x1) (if (gF σ18 196) < x1 then bnd (f_Reader_readRun F σ18) fun r19 σ20 => gd (rng r19) (if r19 = 0 then gd (inb (gF σ20 196) 940) (bv (gA σ20 2 (Int.toNat (gF σ20 196))) fun t21 => gd (rng t21 ∧ rng 59) (if t21 = 59 then bs (sF σ20 197 4) fun σ26 => bs (sF σ26 196 ((gF σ26 196) + 1)) fun σ27 => some (0, σ27) else gd (rng t21 ∧ rng 45) (if t21 = 45 then bs (sF σ20 197 5) fun σ24 => bs (sF σ24 196 ((gF σ24 196) + 1)) fun σ25 => some (0, σ25) else bs (sF σ20 197 1) fun σ22 => bs (sF σ22 196 ((gF σ22 196) + 1)) fun σ23 => some (0, σ23)))) else some (0, σ20)) else bs (sF σ18 197 0) fun σ28 => some (0, σ28))))))))
def l_Reader_advance_11 (F : Nat) : Nat → St → Int → Option (Int × St)
  | 0 => fun _ _ => none
  | n + 1 => fun σ x1 => b_Reader_advance_11 F (l_Reader_advance_11 F n) σ x1
def f_Reader_advance (F : Nat) (σ : St) : Option (Int × St) := gd (rng (gF σ 195) ∧ rng 900) (bv (imin (gF σ 195) 900) fun t1 => l_Reader_advance_11 F F σ t1)
set_option maxRecDepth 100000 in
set_option maxHeartbeats 4000000 in
theorem cb_Reader_advance_11 {K : KX} (F : Nat) (self : St → Int → Option (Int × St)) (hself : ∀ σ x1, WA 2 0 0 cX4_advance RX4 3 none (LYC true false false) (LYC true false false) K 11 [some (.ref 3), some (vi x1), none] [] σ (self σ x1)) (σ : St) (x1 : Int) : WA 2 0 0 cX4_advance RX4 3 none (LYC true false false) (LYC true false false) K 11 [some (.ref 3), some (vi x1), none] [] σ (b_Reader_advance_11 F self σ x1) := by
  unfold b_Reader_advance_11
  refine a_aload_n dX4_advance_11 rfl ?_
  refine a_getI fl_X4_45 lyC_3 rfl dX4_advance_12 (key := 196) rfl ?_
  refine a_iload_n dX4_advance_15 rfl ?_
  refine a_icmp_ge dX4_advance_16 rfl (fun _ => ?_) (fun _ => ?_)
  · refine a_aload_n dX4_advance_60 rfl ?_
    refine a_aload_n dX4_advance_61 rfl ?_
    refine a_getI fl_X4_45 lyC_3 rfl dX4_advance_62 (key := 196) rfl ?_
    refine a_iload_n dX4_advance_65 rfl ?_
    refine a_mmin mf_X4_189 rfl rfl dX4_advance_66 ?_
    refine a_bvi fun t2 => ?_
    refine a_putI fl_X4_177 cf_X4 rfl rfl lyC_3 rfl dX4_advance_69 (key := 198) rfl fun σ3 => ?_
    refine a_aload_n dX4_advance_72 rfl ?_
    refine a_getI fl_X4_45 lyC_3 rfl dX4_advance_73 (key := 196) rfl ?_
    refine a_iload_n dX4_advance_76 rfl ?_
    refine a_icmp_lt dX4_advance_77 rfl (fun _ => ?_) (fun _ => ?_)
    · refine a_aload_n dX4_advance_86 rfl ?_
      refine a_callVi (as := []) mf_X4_195 lyC_3 rfl (c_Reader_readRun F _) LYsame.rf dX4_advance_87 rfl rfl rfl rfl rfl rfl (Or.inl rfl) fun r4 σ5 => ?_
      refine a_if_eq dX4_advance_90 rfl (fun _ => ?_) (fun _ => ?_)
      · refine a_aload_n dX4_advance_94 rfl ?_
        refine a_getR (c0 := 2) fl_X4_9 lyC_3 rfl dX4_advance_95 (key := 194) rfl ?_
        refine a_aload_n dX4_advance_98 rfl ?_
        refine a_getI fl_X4_45 lyC_3 rfl dX4_advance_99 (key := 196) rfl ?_
        refine a_iald lyC_2 rfl dX4_advance_102 ?_
        refine a_bvi fun t6 => ?_
        refine a_istore_n (L' := [some (.ref 3), some (vi x1), some (vi t6)]) dX4_advance_103 rfl rfl rfl rfl ?_
        refine a_aload_n dX4_advance_104 rfl ?_
        refine a_iload_n dX4_advance_105 rfl ?_
        refine a_bipush dX4_advance_106 bi_59 ?_
        refine a_icmp_ne dX4_advance_108 rfl (fun _ => ?_) (fun _ => ?_)
        · refine a_iload_n dX4_advance_115 rfl ?_
          refine a_bipush dX4_advance_116 bi_45 ?_
          refine a_icmp_ne dX4_advance_118 rfl (fun _ => ?_) (fun _ => ?_)
          · refine a_iconst dX4_advance_125 ?_
            refine a_putI fl_X4_51 cf_X4 rfl rfl lyC_3 rfl dX4_advance_126 (key := 197) rfl fun σ7 => ?_
            refine a_aload_n dX4_advance_129 rfl ?_
            refine a_dup dX4_advance_130 rfl ?_
            refine a_getI fl_X4_45 lyC_3 rfl dX4_advance_131 (key := 196) rfl ?_
            refine a_iconst dX4_advance_134 ?_
            refine a_iadd dX4_advance_135 ?_
            refine a_putI fl_X4_45 cf_X4 rfl rfl lyC_3 rfl dX4_advance_136 (key := 196) rfl fun σ8 => ?_
            exact a_vret dX4_advance_139
          refine a_iconst dX4_advance_121 ?_
          refine a_goto dX4_advance_122 rfl ?_
          refine a_putI fl_X4_51 cf_X4 rfl rfl lyC_3 rfl dX4_advance_126 (key := 197) rfl fun σ9 => ?_
          refine a_aload_n dX4_advance_129 rfl ?_
          refine a_dup dX4_advance_130 rfl ?_
          refine a_getI fl_X4_45 lyC_3 rfl dX4_advance_131 (key := 196) rfl ?_
          refine a_iconst dX4_advance_134 ?_
          refine a_iadd dX4_advance_135 ?_
          refine a_putI fl_X4_45 cf_X4 rfl rfl lyC_3 rfl dX4_advance_136 (key := 196) rfl fun σ10 => ?_
          exact a_vret dX4_advance_139
        refine a_iconst dX4_advance_111 ?_
        refine a_goto dX4_advance_112 rfl ?_
        refine a_putI fl_X4_51 cf_X4 rfl rfl lyC_3 rfl dX4_advance_126 (key := 197) rfl fun σ11 => ?_
        refine a_aload_n dX4_advance_129 rfl ?_
        refine a_dup dX4_advance_130 rfl ?_
        refine a_getI fl_X4_45 lyC_3 rfl dX4_advance_131 (key := 196) rfl ?_
        refine a_iconst dX4_advance_134 ?_
        refine a_iadd dX4_advance_135 ?_
        refine a_putI fl_X4_45 cf_X4 rfl rfl lyC_3 rfl dX4_advance_136 (key := 196) rfl fun σ12 => ?_
        exact a_vret dX4_advance_139
      exact a_vret dX4_advance_93
    refine a_aload_n dX4_advance_80 rfl ?_
    refine a_iconst dX4_advance_81 ?_
    refine a_putI fl_X4_51 cf_X4 rfl rfl lyC_3 rfl dX4_advance_82 (key := 197) rfl fun σ13 => ?_
    exact a_vret dX4_advance_85
  refine a_aload_n dX4_advance_19 rfl ?_
  refine a_getR (c0 := 2) fl_X4_9 lyC_3 rfl dX4_advance_20 (key := 194) rfl ?_
  refine a_aload_n dX4_advance_23 rfl ?_
  refine a_getI fl_X4_45 lyC_3 rfl dX4_advance_24 (key := 196) rfl ?_
  refine a_iald lyC_2 rfl dX4_advance_27 ?_
  refine a_bvi fun t14 => ?_
  refine a_bipush dX4_advance_28 bi_32 ?_
  refine a_icmp_eq dX4_advance_30 rfl (fun _ => ?_) (fun _ => ?_)
  · refine a_aload_n dX4_advance_47 rfl ?_
    refine a_dup dX4_advance_48 rfl ?_
    refine a_getI fl_X4_45 lyC_3 rfl dX4_advance_49 (key := 196) rfl ?_
    refine a_iconst dX4_advance_52 ?_
    refine a_iadd dX4_advance_53 ?_
    refine a_putI fl_X4_45 cf_X4 rfl rfl lyC_3 rfl dX4_advance_54 (key := 196) rfl fun σ15 => ?_
    refine a_goto dX4_advance_57 rfl ?_
    exact hself _ _
  refine a_aload_n dX4_advance_33 rfl ?_
  refine a_getR (c0 := 2) fl_X4_9 lyC_3 rfl dX4_advance_34 (key := 194) rfl ?_
  refine a_aload_n dX4_advance_37 rfl ?_
  refine a_getI fl_X4_45 lyC_3 rfl dX4_advance_38 (key := 196) rfl ?_
  refine a_iald lyC_2 rfl dX4_advance_41 ?_
  refine a_bvi fun t16 => ?_
  refine a_bipush dX4_advance_42 bi_10 ?_
  refine a_icmp_ne dX4_advance_44 rfl (fun _ => ?_) (fun _ => ?_)
  · refine a_aload_n dX4_advance_60 rfl ?_
    refine a_aload_n dX4_advance_61 rfl ?_
    refine a_getI fl_X4_45 lyC_3 rfl dX4_advance_62 (key := 196) rfl ?_
    refine a_iload_n dX4_advance_65 rfl ?_
    refine a_mmin mf_X4_189 rfl rfl dX4_advance_66 ?_
    refine a_bvi fun t17 => ?_
    refine a_putI fl_X4_177 cf_X4 rfl rfl lyC_3 rfl dX4_advance_69 (key := 198) rfl fun σ18 => ?_
    refine a_aload_n dX4_advance_72 rfl ?_
    refine a_getI fl_X4_45 lyC_3 rfl dX4_advance_73 (key := 196) rfl ?_
    refine a_iload_n dX4_advance_76 rfl ?_
    refine a_icmp_lt dX4_advance_77 rfl (fun _ => ?_) (fun _ => ?_)
    · refine a_aload_n dX4_advance_86 rfl ?_
      refine a_callVi (as := []) mf_X4_195 lyC_3 rfl (c_Reader_readRun F _) LYsame.rf dX4_advance_87 rfl rfl rfl rfl rfl rfl (Or.inl rfl) fun r19 σ20 => ?_
      refine a_if_eq dX4_advance_90 rfl (fun _ => ?_) (fun _ => ?_)
      · refine a_aload_n dX4_advance_94 rfl ?_
        refine a_getR (c0 := 2) fl_X4_9 lyC_3 rfl dX4_advance_95 (key := 194) rfl ?_
        refine a_aload_n dX4_advance_98 rfl ?_
        refine a_getI fl_X4_45 lyC_3 rfl dX4_advance_99 (key := 196) rfl ?_
        refine a_iald lyC_2 rfl dX4_advance_102 ?_
        refine a_bvi fun t21 => ?_
        refine a_istore_n (L' := [some (.ref 3), some (vi x1), some (vi t21)]) dX4_advance_103 rfl rfl rfl rfl ?_
        refine a_aload_n dX4_advance_104 rfl ?_
        refine a_iload_n dX4_advance_105 rfl ?_
        refine a_bipush dX4_advance_106 bi_59 ?_
        refine a_icmp_ne dX4_advance_108 rfl (fun _ => ?_) (fun _ => ?_)
        · refine a_iload_n dX4_advance_115 rfl ?_
          refine a_bipush dX4_advance_116 bi_45 ?_
          refine a_icmp_ne dX4_advance_118 rfl (fun _ => ?_) (fun _ => ?_)
          · refine a_iconst dX4_advance_125 ?_
            refine a_putI fl_X4_51 cf_X4 rfl rfl lyC_3 rfl dX4_advance_126 (key := 197) rfl fun σ22 => ?_
            refine a_aload_n dX4_advance_129 rfl ?_
            refine a_dup dX4_advance_130 rfl ?_
            refine a_getI fl_X4_45 lyC_3 rfl dX4_advance_131 (key := 196) rfl ?_
            refine a_iconst dX4_advance_134 ?_
            refine a_iadd dX4_advance_135 ?_
            refine a_putI fl_X4_45 cf_X4 rfl rfl lyC_3 rfl dX4_advance_136 (key := 196) rfl fun σ23 => ?_
            exact a_vret dX4_advance_139
          refine a_iconst dX4_advance_121 ?_
          refine a_goto dX4_advance_122 rfl ?_
          refine a_putI fl_X4_51 cf_X4 rfl rfl lyC_3 rfl dX4_advance_126 (key := 197) rfl fun σ24 => ?_
          refine a_aload_n dX4_advance_129 rfl ?_
          refine a_dup dX4_advance_130 rfl ?_
          refine a_getI fl_X4_45 lyC_3 rfl dX4_advance_131 (key := 196) rfl ?_
          refine a_iconst dX4_advance_134 ?_
          refine a_iadd dX4_advance_135 ?_
          refine a_putI fl_X4_45 cf_X4 rfl rfl lyC_3 rfl dX4_advance_136 (key := 196) rfl fun σ25 => ?_
          exact a_vret dX4_advance_139
        refine a_iconst dX4_advance_111 ?_
        refine a_goto dX4_advance_112 rfl ?_
        refine a_putI fl_X4_51 cf_X4 rfl rfl lyC_3 rfl dX4_advance_126 (key := 197) rfl fun σ26 => ?_
        refine a_aload_n dX4_advance_129 rfl ?_
        refine a_dup dX4_advance_130 rfl ?_
        refine a_getI fl_X4_45 lyC_3 rfl dX4_advance_131 (key := 196) rfl ?_
        refine a_iconst dX4_advance_134 ?_
        refine a_iadd dX4_advance_135 ?_
        refine a_putI fl_X4_45 cf_X4 rfl rfl lyC_3 rfl dX4_advance_136 (key := 196) rfl fun σ27 => ?_
        exact a_vret dX4_advance_139
      exact a_vret dX4_advance_93
    refine a_aload_n dX4_advance_80 rfl ?_
    refine a_iconst dX4_advance_81 ?_
    refine a_putI fl_X4_51 cf_X4 rfl rfl lyC_3 rfl dX4_advance_82 (key := 197) rfl fun σ28 => ?_
    exact a_vret dX4_advance_85
  refine a_aload_n dX4_advance_47 rfl ?_
  refine a_dup dX4_advance_48 rfl ?_
  refine a_getI fl_X4_45 lyC_3 rfl dX4_advance_49 (key := 196) rfl ?_
  refine a_iconst dX4_advance_52 ?_
  refine a_iadd dX4_advance_53 ?_
  refine a_putI fl_X4_45 cf_X4 rfl rfl lyC_3 rfl dX4_advance_54 (key := 196) rfl fun σ29 => ?_
  refine a_goto dX4_advance_57 rfl ?_
  exact hself _ _
set_option maxRecDepth 100000 in
set_option maxHeartbeats 4000000 in
theorem cl_Reader_advance_11 {K : KX} (F : Nat) : ∀ (n : Nat) (σ : St) (x1 : Int), WA 2 0 0 cX4_advance RX4 3 none (LYC true false false) (LYC true false false) K 11 [some (.ref 3), some (vi x1), none] [] σ (l_Reader_advance_11 F n σ x1)
  | 0, _, _ => a_none
  | n + 1, σ, x1 => cb_Reader_advance_11 F _ (cl_Reader_advance_11 F n) σ x1
set_option maxRecDepth 100000 in
set_option maxHeartbeats 4000000 in
theorem c_Reader_advance (F : Nat) (σ : St) : Ct 2 0 0 yX4_advance cX4_advance 3 none (LYC true false false) (LYC true false false) [.ref 3] σ (f_Reader_advance F σ) := by
  unfold f_Reader_advance
  refine Ct_of (d := 2) (kp := 0) (kd := 0) (own := RX4) (nL := 3) (ret := none) (LY := (LYC true false false)) (LYe := (LYC true false false)) (L := [some (.ref 3), none, none]) rfl (by decide +kernel) rfl rfl mf_X4_48.2.2.2.1 rfl fun K => ?_
  refine a_aload_n dX4_advance_0 rfl ?_
  refine a_getI fl_X4_29 lyC_3 rfl dX4_advance_1 (key := 195) rfl ?_
  refine a_sipush dX4_advance_4 si_900 ?_
  refine a_mmin mf_X4_189 rfl rfl dX4_advance_7 ?_
  refine a_bvi fun t1 => ?_
  refine a_istore_n (L' := [some (.ref 3), some (vi t1), none]) dX4_advance_10 rfl rfl rfl rfl ?_
  exact cl_Reader_advance_11 F F _ _
def f_Reader_blame (F : Nat) (σ : St) (x1 : Int) : Option (Int × St) := bs (sF σ 193 x1) fun σ1 => bs (sF σ1 192 (gF σ1 198)) fun σ2 => some (0, σ2)
set_option maxRecDepth 100000 in
set_option maxHeartbeats 4000000 in
theorem c_Reader_blame (F : Nat) (σ : St) (x1 : Int) : Ct 1 0 1 yX4_blame cX4_blame 2 (some .boolean) (LYC true false false) (LYC true false false) [.ref 3, vi x1] σ (f_Reader_blame F σ x1) := by
  unfold f_Reader_blame
  refine Ct_of (d := 1) (kp := 0) (kd := 1) (own := RX4) (nL := 2) (ret := (some .boolean)) (LY := (LYC true false false)) (LYe := (LYC true false false)) (L := [some (.ref 3), some (vi x1)]) rfl (by decide +kernel) rfl rfl mf_X4_65.2.2.2.1 rfl fun K => ?_
  refine a_aload_n dX4_blame_0 rfl ?_
  refine a_iload_n dX4_blame_1 rfl ?_
  refine a_putI fl_X4_35 cf_X4 rfl rfl lyC_3 rfl dX4_blame_2 (key := 193) rfl fun σ1 => ?_
  refine a_aload_n dX4_blame_5 rfl ?_
  refine a_aload_n dX4_blame_6 rfl ?_
  refine a_getI fl_X4_177 lyC_3 rfl dX4_blame_7 (key := 198) rfl ?_
  refine a_putI fl_X4_180 cf_X4 rfl rfl lyC_3 rfl dX4_blame_10 (key := 192) rfl fun σ2 => ?_
  refine a_iconst dX4_blame_13 ?_
  exact a_zretc (by decide) dX4_blame_14
def f_Reader_isName (F : Nat) (σ : St) : Option (Int × St) := gd (rng (gF σ 197) ∧ rng 2) (if (gF σ 197) = 2 then gd (rng64 (gF σ 199) ∧ rng64 30506450281915237) (if (gF σ 199) = 30506450281915237 then some (0, σ) else gd (rng64 (gF σ 199) ∧ rng64 114784635872626) (if (gF σ 199) = 114784635872626 then some (0, σ) else gd (rng64 (gF σ 199) ∧ rng64 1734437230) (if (gF σ 199) = 1734437230 then some (0, σ) else gd (rng64 (gF σ 199) ∧ rng64 126879480964466) (if (gF σ 199) = 126879480964466 then some (0, σ) else gd (rng64 (gF σ 199) ∧ rng64 110442557371507) (if (gF σ 199) = 110442557371507 then some (0, σ) else gd (rng64 (gF σ 199) ∧ rng64 1818848101) (if (gF σ 199) = 1818848101 then some (0, σ) else gd (rng64 (gF σ 199) ∧ rng64 32497584235442030) (if (gF σ 199) = 32497584235442030 then some (0, σ) else gd (rng64 (gF σ 199) ∧ rng64 27696016923389543) (if (gF σ 199) = 27696016923389543 then some (0, σ) else some (1, σ))))))))) else some (0, σ))
set_option maxRecDepth 100000 in
set_option maxHeartbeats 4000000 in
theorem c_Reader_isName (F : Nat) (σ : St) : Ct 1 0 1 yX4_isName cX4_isName 1 (some .boolean) (LYC true false false) (LYC true false false) [.ref 3] σ (f_Reader_isName F σ) := by
  unfold f_Reader_isName
  refine Ct_of (d := 1) (kp := 0) (kd := 1) (own := RX4) (nL := 1) (ret := (some .boolean)) (LY := (LYC true false false)) (LYe := (LYC true false false)) (L := [some (.ref 3)]) rfl (by decide +kernel) rfl rfl mf_X4_183.2.2.2.1 rfl fun K => ?_
  refine a_aload_n dX4_isName_0 rfl ?_
  refine a_getI fl_X4_51 lyC_3 rfl dX4_isName_1 (key := 197) rfl ?_
  refine a_iconst dX4_isName_4 ?_
  refine a_icmp_eq dX4_isName_5 rfl (fun _ => ?_) (fun _ => ?_)
  · refine a_aload_n dX4_isName_10 rfl ?_
    refine a_getL fl_X4_79 lyC_3 rfl dX4_isName_11 (key := 199) rfl ?_
    refine a_ldc2 kc_X4_83 rfl dX4_isName_14 ?_
    refine a_lcmp_eq dX4_isName_17 dX4_isName_18 rfl (fun _ => ?_) (fun _ => ?_)
    · refine a_iconst dX4_isName_102 ?_
      exact a_zretc (by decide) dX4_isName_103
    refine a_aload_n dX4_isName_21 rfl ?_
    refine a_getL fl_X4_79 lyC_3 rfl dX4_isName_22 (key := 199) rfl ?_
    refine a_ldc2 kc_X4_88 rfl dX4_isName_25 ?_
    refine a_lcmp_eq dX4_isName_28 dX4_isName_29 rfl (fun _ => ?_) (fun _ => ?_)
    · refine a_iconst dX4_isName_102 ?_
      exact a_zretc (by decide) dX4_isName_103
    refine a_aload_n dX4_isName_32 rfl ?_
    refine a_getL fl_X4_79 lyC_3 rfl dX4_isName_33 (key := 199) rfl ?_
    refine a_ldc2 kc_X4_130 rfl dX4_isName_36 ?_
    refine a_lcmp_eq dX4_isName_39 dX4_isName_40 rfl (fun _ => ?_) (fun _ => ?_)
    · refine a_iconst dX4_isName_102 ?_
      exact a_zretc (by decide) dX4_isName_103
    refine a_aload_n dX4_isName_43 rfl ?_
    refine a_getL fl_X4_79 lyC_3 rfl dX4_isName_44 (key := 199) rfl ?_
    refine a_ldc2 kc_X4_93 rfl dX4_isName_47 ?_
    refine a_lcmp_eq dX4_isName_50 dX4_isName_51 rfl (fun _ => ?_) (fun _ => ?_)
    · refine a_iconst dX4_isName_102 ?_
      exact a_zretc (by decide) dX4_isName_103
    refine a_aload_n dX4_isName_54 rfl ?_
    refine a_getL fl_X4_79 lyC_3 rfl dX4_isName_55 (key := 199) rfl ?_
    refine a_ldc2 kc_X4_152 rfl dX4_isName_58 ?_
    refine a_lcmp_eq dX4_isName_61 dX4_isName_62 rfl (fun _ => ?_) (fun _ => ?_)
    · refine a_iconst dX4_isName_102 ?_
      exact a_zretc (by decide) dX4_isName_103
    refine a_aload_n dX4_isName_65 rfl ?_
    refine a_getL fl_X4_79 lyC_3 rfl dX4_isName_66 (key := 199) rfl ?_
    refine a_ldc2 kc_X4_154 rfl dX4_isName_69 ?_
    refine a_lcmp_eq dX4_isName_72 dX4_isName_73 rfl (fun _ => ?_) (fun _ => ?_)
    · refine a_iconst dX4_isName_102 ?_
      exact a_zretc (by decide) dX4_isName_103
    refine a_aload_n dX4_isName_76 rfl ?_
    refine a_getL fl_X4_79 lyC_3 rfl dX4_isName_77 (key := 199) rfl ?_
    refine a_ldc2 kc_X4_98 rfl dX4_isName_80 ?_
    refine a_lcmp_eq dX4_isName_83 dX4_isName_84 rfl (fun _ => ?_) (fun _ => ?_)
    · refine a_iconst dX4_isName_102 ?_
      exact a_zretc (by decide) dX4_isName_103
    refine a_aload_n dX4_isName_87 rfl ?_
    refine a_getL fl_X4_79 lyC_3 rfl dX4_isName_88 (key := 199) rfl ?_
    refine a_ldc2 kc_X4_111 rfl dX4_isName_91 ?_
    refine a_lcmp_eq dX4_isName_94 dX4_isName_95 rfl (fun _ => ?_) (fun _ => ?_)
    · refine a_iconst dX4_isName_102 ?_
      exact a_zretc (by decide) dX4_isName_103
    refine a_iconst dX4_isName_98 ?_
    refine a_goto dX4_isName_99 rfl ?_
    exact a_zretc (by decide) dX4_isName_103
  refine a_iconst dX4_isName_8 ?_
  exact a_zretc (by decide) dX4_isName_9
def b_Reader_placeOf_stationName_2 (F : Nat) (self : St → Int → Int → Option (Int × St)) (σ : St) (x2 x3 : Int) : Option (Int × St) := gd (rng x3 ∧ rng x2) (if x2 ≤ x3 then some ((-1), σ) else gd (rng x3 ∧ rng 4) (if (4 : Int) ≤ x3 then some ((-1), σ) else gd (inb x3 4) (gd (rng64 (gA σ 5 (Int.toNat x3)) ∧ rng64 (gF σ 199)) (if (gA σ 5 (Int.toNat x3)) = (gF σ 199) then some (x3, σ) else bv (x3 + 1) fun x3_1 => self σ x2 x3_1))))
def l_Reader_placeOf_stationName_2 (F : Nat) : Nat → St → Int → Int → Option (Int × St)
  | 0 => fun _ _ _ => none
  | n + 1 => fun σ x2 x3 => b_Reader_placeOf_stationName_2 F (l_Reader_placeOf_stationName_2 F n) σ x2 x3
def f_Reader_placeOf_stationName (F : Nat) (σ : St) (x2 : Int) : Option (Int × St) := l_Reader_placeOf_stationName_2 F F σ x2 0
set_option maxRecDepth 100000 in
set_option maxHeartbeats 4000000 in
theorem cb_Reader_placeOf_stationName_2 {K : KX} (F : Nat) (self : St → Int → Int → Option (Int × St)) (hself : ∀ σ x2 x3, WA 1 0 1 cX4_placeOf RX4 4 (some .int) (LYC true false false) (LYC true false false) K 2 [some (.ref 3), some (.ref 5), some (vi x2), some (vi x3)] [] σ (self σ x2 x3)) (σ : St) (x2 x3 : Int) : WA 1 0 1 cX4_placeOf RX4 4 (some .int) (LYC true false false) (LYC true false false) K 2 [some (.ref 3), some (.ref 5), some (vi x2), some (vi x3)] [] σ (b_Reader_placeOf_stationName_2 F self σ x2 x3) := by
  unfold b_Reader_placeOf_stationName_2
  refine a_iload_n dX4_placeOf_2 rfl ?_
  refine a_iload_n dX4_placeOf_3 rfl ?_
  refine a_icmp_ge dX4_placeOf_4 rfl (fun _ => ?_) (fun _ => ?_)
  · refine a_iconst dX4_placeOf_32 ?_
    exact a_iret dX4_placeOf_33
  refine a_iload_n dX4_placeOf_7 rfl ?_
  refine a_aload_n dX4_placeOf_8 rfl ?_
  refine a_alen lyC_5 dX4_placeOf_9 ?_
  refine a_icmp_ge dX4_placeOf_10 rfl (fun _ => ?_) (fun _ => ?_)
  · refine a_iconst dX4_placeOf_32 ?_
    exact a_iret dX4_placeOf_33
  refine a_aload_n dX4_placeOf_13 rfl ?_
  refine a_iload_n dX4_placeOf_14 rfl ?_
  refine a_lald lyC_5 rfl dX4_placeOf_15 ?_
  refine a_aload_n dX4_placeOf_16 rfl ?_
  refine a_getL fl_X4_79 lyC_3 rfl dX4_placeOf_17 (key := 199) rfl ?_
  refine a_lcmp_ne dX4_placeOf_20 dX4_placeOf_21 rfl (fun _ => ?_) (fun _ => ?_)
  · refine a_bv fun x3_1 ex3_1 => ?_
    refine a_iinc (y := x3_1) (L' := [some (.ref 3), some (.ref 5), some (vi x2), some (vi x3_1)]) dX4_placeOf_26 rfl ex3_1 rfl rfl rfl ?_
    refine a_goto dX4_placeOf_29 rfl ?_
    exact hself _ _ _
  refine a_iload_n dX4_placeOf_24 rfl ?_
  exact a_iret dX4_placeOf_25
set_option maxRecDepth 100000 in
set_option maxHeartbeats 4000000 in
theorem cl_Reader_placeOf_stationName_2 {K : KX} (F : Nat) : ∀ (n : Nat) (σ : St) (x2 x3 : Int), WA 1 0 1 cX4_placeOf RX4 4 (some .int) (LYC true false false) (LYC true false false) K 2 [some (.ref 3), some (.ref 5), some (vi x2), some (vi x3)] [] σ (l_Reader_placeOf_stationName_2 F n σ x2 x3)
  | 0, _, _, _ => a_none
  | n + 1, σ, x2, x3 => cb_Reader_placeOf_stationName_2 F _ (cl_Reader_placeOf_stationName_2 F n) σ x2 x3
set_option maxRecDepth 100000 in
set_option maxHeartbeats 4000000 in
theorem c_Reader_placeOf_stationName (F : Nat) (σ : St) (x2 : Int) : Ct 1 0 1 yX4_placeOf cX4_placeOf 4 (some .int) (LYC true false false) (LYC true false false) [.ref 3, .ref 5, vi x2] σ (f_Reader_placeOf_stationName F σ x2) := by
  unfold f_Reader_placeOf_stationName
  refine Ct_of (d := 1) (kp := 0) (kd := 1) (own := RX4) (nL := 4) (ret := (some .int)) (LY := (LYC true false false)) (LYe := (LYC true false false)) (L := [some (.ref 3), some (.ref 5), some (vi x2), none]) rfl (by decide +kernel) rfl rfl mf_X4_186.2.2.2.1 rfl fun K => ?_
  refine a_iconst dX4_placeOf_0 ?_
  refine a_istore_n (L' := [some (.ref 3), some (.ref 5), some (vi x2), some (vi 0)]) dX4_placeOf_1 rfl rfl rfl rfl ?_
  exact cl_Reader_placeOf_stationName_2 F F _ _ _
def f_Reader_namedOne_stationName (F : Nat) (σ : St) (x2 : Int) : Option (Int × St) := bnd (f_Reader_isName F σ) fun r1 σ2 => gd (rng r1) (if r1 = 0 then bnd (f_Reader_blame F σ2 1) fun r7 σ8 => some ((-1), σ8) else bnd (f_Reader_placeOf_stationName F σ2 x2) fun r3 σ4 => gd (rng r3 ∧ rng (-1)) (if r3 = (-1) then bnd (f_Reader_blame F σ4 3) fun r5 σ6 => some (r3, σ6) else some (r3, σ4)))
set_option maxRecDepth 100000 in
set_option maxHeartbeats 4000000 in
theorem c_Reader_namedOne_stationName (F : Nat) (σ : St) (x2 : Int) : Ct 2 0 1 yX4_namedOne cX4_namedOne 4 (some .int) (LYC true false false) (LYC true false false) [.ref 3, .ref 5, vi x2] σ (f_Reader_namedOne_stationName F σ x2) := by
  unfold f_Reader_namedOne_stationName
  refine Ct_of (d := 2) (kp := 0) (kd := 1) (own := RX4) (nL := 4) (ret := (some .int)) (LY := (LYC true false false)) (LYe := (LYC true false false)) (L := [some (.ref 3), some (.ref 5), some (vi x2), none]) rfl (by decide +kernel) rfl rfl mf_X4_156.2.2.2.1 rfl fun K => ?_
  refine a_aload_n dX4_namedOne_0 rfl ?_
  refine a_callVi (as := []) mf_X4_183 lyC_3 rfl (c_Reader_isName F _) LYsame.rf dX4_namedOne_1 rfl rfl rfl rfl rfl rfl (Or.inl rfl) fun r1 σ2 => ?_
  refine a_if_ne dX4_namedOne_4 rfl (fun _ => ?_) (fun _ => ?_)
  · refine a_aload_n dX4_namedOne_15 rfl ?_
    refine a_aload_n dX4_namedOne_16 rfl ?_
    refine a_iload_n dX4_namedOne_17 rfl ?_
    refine a_callVi (as := [.ref 5, vi x2]) mf_X4_186 lyC_3 rfl (c_Reader_placeOf_stationName F _ _) LYsame.rf dX4_namedOne_18 rfl rfl rfl rfl rfl rfl (Or.inl rfl) fun r3 σ4 => ?_
    refine a_istore_n (L' := [some (.ref 3), some (.ref 5), some (vi x2), some (vi r3)]) dX4_namedOne_21 rfl rfl rfl rfl ?_
    refine a_iload_n dX4_namedOne_22 rfl ?_
    refine a_iconst dX4_namedOne_23 ?_
    refine a_icmp_ne dX4_namedOne_24 rfl (fun _ => ?_) (fun _ => ?_)
    · refine a_iload_n dX4_namedOne_33 rfl ?_
      exact a_iret dX4_namedOne_34
    refine a_aload_n dX4_namedOne_27 rfl ?_
    refine a_iconst dX4_namedOne_28 ?_
    refine a_callVi (as := [vi 3]) mf_X4_65 lyC_3 rfl (c_Reader_blame F _ _) LYsame.rf dX4_namedOne_29 rfl rfl rfl rfl rfl rfl (Or.inl rfl) fun r5 σ6 => ?_
    refine a_pop dX4_namedOne_32 rfl ?_
    refine a_iload_n dX4_namedOne_33 rfl ?_
    exact a_iret dX4_namedOne_34
  refine a_aload_n dX4_namedOne_7 rfl ?_
  refine a_iconst dX4_namedOne_8 ?_
  refine a_callVi (as := [vi 1]) mf_X4_65 lyC_3 rfl (c_Reader_blame F _ _) LYsame.rf dX4_namedOne_9 rfl rfl rfl rfl rfl rfl (Or.inl rfl) fun r7 σ8 => ?_
  refine a_pop dX4_namedOne_12 rfl ?_
  refine a_iconst dX4_namedOne_13 ?_
  exact a_iret dX4_namedOne_14
def f_Reader_isNumber (F : Nat) (σ : St) (x1 x2 : Int) : Option (Int × St) := gd (rng (gF σ 197) ∧ rng 3) (if (gF σ 197) = 3 then gd (rng (gF σ 200) ∧ rng x1) (if (gF σ 200) < x1 then bnd (f_Reader_blame F σ 2) fun r1 σ2 => gd (rng r1) (if r1 = 0 then some (0, σ2) else some (1, σ2)) else gd (rng (gF σ 200) ∧ rng x2) (if (gF σ 200) ≤ x2 then some (1, σ) else bnd (f_Reader_blame F σ 2) fun r3 σ4 => gd (rng r3) (if r3 = 0 then some (0, σ4) else some (1, σ4)))) else bnd (f_Reader_blame F σ 1) fun r5 σ6 => gd (isb r5) (some (r5, σ6)))
set_option maxRecDepth 100000 in
set_option maxHeartbeats 4000000 in
theorem c_Reader_isNumber (F : Nat) (σ : St) (x1 x2 : Int) : Ct 2 0 1 yX4_isNumber cX4_isNumber 3 (some .boolean) (LYC true false false) (LYC true false false) [.ref 3, vi x1, vi x2] σ (f_Reader_isNumber F σ x1 x2) := by
  unfold f_Reader_isNumber
  refine Ct_of (d := 2) (kp := 0) (kd := 1) (own := RX4) (nL := 3) (ret := (some .boolean)) (LY := (LYC true false false)) (LYe := (LYC true false false)) (L := [some (.ref 3), some (vi x1), some (vi x2)]) rfl (by decide +kernel) rfl rfl mf_X4_117.2.2.2.1 rfl fun K => ?_
  refine a_aload_n dX4_isNumber_0 rfl ?_
  refine a_getI fl_X4_51 lyC_3 rfl dX4_isNumber_1 (key := 197) rfl ?_
  refine a_iconst dX4_isNumber_4 ?_
  refine a_icmp_eq dX4_isNumber_5 rfl (fun _ => ?_) (fun _ => ?_)
  · refine a_aload_n dX4_isNumber_14 rfl ?_
    refine a_getI fl_X4_121 lyC_3 rfl dX4_isNumber_15 (key := 200) rfl ?_
    refine a_iload_n dX4_isNumber_18 rfl ?_
    refine a_icmp_lt dX4_isNumber_19 rfl (fun _ => ?_) (fun _ => ?_)
    · refine a_aload_n dX4_isNumber_30 rfl ?_
      refine a_iconst dX4_isNumber_31 ?_
      refine a_callVi (as := [vi 2]) mf_X4_65 lyC_3 rfl (c_Reader_blame F _ _) LYsame.rf dX4_isNumber_32 rfl rfl rfl rfl rfl rfl (Or.inl rfl) fun r1 σ2 => ?_
      refine a_if_eq dX4_isNumber_35 rfl (fun _ => ?_) (fun _ => ?_)
      · refine a_iconst dX4_isNumber_42 ?_
        exact a_zretc (by decide) dX4_isNumber_43
      refine a_iconst dX4_isNumber_38 ?_
      refine a_goto dX4_isNumber_39 rfl ?_
      exact a_zretc (by decide) dX4_isNumber_43
    refine a_aload_n dX4_isNumber_22 rfl ?_
    refine a_getI fl_X4_121 lyC_3 rfl dX4_isNumber_23 (key := 200) rfl ?_
    refine a_iload_n dX4_isNumber_26 rfl ?_
    refine a_icmp_le dX4_isNumber_27 rfl (fun _ => ?_) (fun _ => ?_)
    · refine a_iconst dX4_isNumber_38 ?_
      refine a_goto dX4_isNumber_39 rfl ?_
      exact a_zretc (by decide) dX4_isNumber_43
    refine a_aload_n dX4_isNumber_30 rfl ?_
    refine a_iconst dX4_isNumber_31 ?_
    refine a_callVi (as := [vi 2]) mf_X4_65 lyC_3 rfl (c_Reader_blame F _ _) LYsame.rf dX4_isNumber_32 rfl rfl rfl rfl rfl rfl (Or.inl rfl) fun r3 σ4 => ?_
    refine a_if_eq dX4_isNumber_35 rfl (fun _ => ?_) (fun _ => ?_)
    · refine a_iconst dX4_isNumber_42 ?_
      exact a_zretc (by decide) dX4_isNumber_43
    refine a_iconst dX4_isNumber_38 ?_
    refine a_goto dX4_isNumber_39 rfl ?_
    exact a_zretc (by decide) dX4_isNumber_43
  refine a_aload_n dX4_isNumber_8 rfl ?_
  refine a_iconst dX4_isNumber_9 ?_
  refine a_callVi (as := [vi 1]) mf_X4_65 lyC_3 rfl (c_Reader_blame F _ _) LYsame.rf dX4_isNumber_10 rfl rfl rfl rfl rfl rfl (Or.inl rfl) fun r5 σ6 => ?_
  exact a_zret dX4_isNumber_13
def f_Reader_isSigned (F : Nat) (σ : St) : Option (Int × St) := gd (rng (gF σ 197) ∧ rng 5) (if (gF σ 197) = 5 then gd (rng 1) (if (1 : Int) = 0 then bnd (f_Reader_isNumber F σ 0 99) fun r11 σ12 => gd (rng r11) (if r11 = 0 then some (0, σ12) else gd (rng 1) (if (1 : Int) = 0 then bs (sF σ12 200 (gF σ12 200)) fun σ13 => some (1, σ13) else bs (sF σ12 200 (-(gF σ12 200))) fun σ14 => some (1, σ14))) else bnd (f_Reader_advance F σ) fun r15 σ16 => bnd (f_Reader_isNumber F σ16 0 99) fun r17 σ18 => gd (rng r17) (if r17 = 0 then some (0, σ18) else gd (rng 1) (if (1 : Int) = 0 then bs (sF σ18 200 (gF σ18 200)) fun σ19 => some (1, σ19) else bs (sF σ18 200 (-(gF σ18 200))) fun σ20 => some (1, σ20)))) else gd (rng 0) (if (0 : Int) = 0 then bnd (f_Reader_isNumber F σ 0 99) fun r1 σ2 => gd (rng r1) (if r1 = 0 then some (0, σ2) else gd (rng 0) (if (0 : Int) = 0 then bs (sF σ2 200 (gF σ2 200)) fun σ3 => some (1, σ3) else bs (sF σ2 200 (-(gF σ2 200))) fun σ4 => some (1, σ4))) else bnd (f_Reader_advance F σ) fun r5 σ6 => bnd (f_Reader_isNumber F σ6 0 99) fun r7 σ8 => gd (rng r7) (if r7 = 0 then some (0, σ8) else gd (rng 0) (if (0 : Int) = 0 then bs (sF σ8 200 (gF σ8 200)) fun σ9 => some (1, σ9) else bs (sF σ8 200 (-(gF σ8 200))) fun σ10 => some (1, σ10)))))
set_option maxRecDepth 100000 in
set_option maxHeartbeats 4000000 in
theorem c_Reader_isSigned (F : Nat) (σ : St) : Ct 3 0 1 yX4_isSigned cX4_isSigned 2 (some .boolean) (LYC true false false) (LYC true false false) [.ref 3] σ (f_Reader_isSigned F σ) := by
  unfold f_Reader_isSigned
  refine Ct_of (d := 3) (kp := 0) (kd := 1) (own := RX4) (nL := 2) (ret := (some .boolean)) (LY := (LYC true false false)) (LYe := (LYC true false false)) (L := [some (.ref 3), none]) rfl (by decide +kernel) rfl rfl mf_X4_164.2.2.2.1 rfl fun K => ?_
  refine a_aload_n dX4_isSigned_0 rfl ?_
  refine a_getI fl_X4_51 lyC_3 rfl dX4_isSigned_1 (key := 197) rfl ?_
  refine a_iconst dX4_isSigned_4 ?_
  refine a_icmp_ne dX4_isSigned_5 rfl (fun _ => ?_) (fun _ => ?_)
  · refine a_iconst dX4_isSigned_12 ?_
    refine a_istore_n (L' := [some (.ref 3), some (vi 0)]) dX4_isSigned_13 rfl rfl rfl rfl ?_
    refine a_iload_n dX4_isSigned_14 rfl ?_
    refine a_if_eq dX4_isSigned_15 rfl (fun _ => ?_) (fun _ => ?_)
    · refine a_aload_n dX4_isSigned_22 rfl ?_
      refine a_iconst dX4_isSigned_23 ?_
      refine a_bipush dX4_isSigned_24 bi_99 ?_
      refine a_callVi (as := [vi 0, vi 99]) mf_X4_117 lyC_3 rfl (c_Reader_isNumber F _ _ _) LYsame.rf dX4_isSigned_26 rfl rfl rfl rfl rfl rfl (Or.inl rfl) fun r1 σ2 => ?_
      refine a_if_ne dX4_isSigned_29 rfl (fun _ => ?_) (fun _ => ?_)
      · refine a_aload_n dX4_isSigned_34 rfl ?_
        refine a_iload_n dX4_isSigned_35 rfl ?_
        refine a_if_eq dX4_isSigned_36 rfl (fun _ => ?_) (fun _ => ?_)
        · refine a_aload_n dX4_isSigned_47 rfl ?_
          refine a_getI fl_X4_121 lyC_3 rfl dX4_isSigned_48 (key := 200) rfl ?_
          refine a_putI fl_X4_121 cf_X4 rfl rfl lyC_3 rfl dX4_isSigned_51 (key := 200) rfl fun σ3 => ?_
          refine a_iconst dX4_isSigned_54 ?_
          exact a_zretc (by decide) dX4_isSigned_55
        refine a_aload_n dX4_isSigned_39 rfl ?_
        refine a_getI fl_X4_121 lyC_3 rfl dX4_isSigned_40 (key := 200) rfl ?_
        refine a_ineg dX4_isSigned_43 ?_
        refine a_goto dX4_isSigned_44 rfl ?_
        refine a_putI fl_X4_121 cf_X4 rfl rfl lyC_3 rfl dX4_isSigned_51 (key := 200) rfl fun σ4 => ?_
        refine a_iconst dX4_isSigned_54 ?_
        exact a_zretc (by decide) dX4_isSigned_55
      refine a_iconst dX4_isSigned_32 ?_
      exact a_zretc (by decide) dX4_isSigned_33
    refine a_aload_n dX4_isSigned_18 rfl ?_
    refine a_callVv (as := []) mf_X4_48 lyC_3 rfl (c_Reader_advance F _) LYsame.rf dX4_isSigned_19 rfl rfl rfl rfl rfl rfl (Or.inl rfl) fun r5 σ6 => ?_
    refine a_aload_n dX4_isSigned_22 rfl ?_
    refine a_iconst dX4_isSigned_23 ?_
    refine a_bipush dX4_isSigned_24 bi_99 ?_
    refine a_callVi (as := [vi 0, vi 99]) mf_X4_117 lyC_3 rfl (c_Reader_isNumber F _ _ _) LYsame.rf dX4_isSigned_26 rfl rfl rfl rfl rfl rfl (Or.inl rfl) fun r7 σ8 => ?_
    refine a_if_ne dX4_isSigned_29 rfl (fun _ => ?_) (fun _ => ?_)
    · refine a_aload_n dX4_isSigned_34 rfl ?_
      refine a_iload_n dX4_isSigned_35 rfl ?_
      refine a_if_eq dX4_isSigned_36 rfl (fun _ => ?_) (fun _ => ?_)
      · refine a_aload_n dX4_isSigned_47 rfl ?_
        refine a_getI fl_X4_121 lyC_3 rfl dX4_isSigned_48 (key := 200) rfl ?_
        refine a_putI fl_X4_121 cf_X4 rfl rfl lyC_3 rfl dX4_isSigned_51 (key := 200) rfl fun σ9 => ?_
        refine a_iconst dX4_isSigned_54 ?_
        exact a_zretc (by decide) dX4_isSigned_55
      refine a_aload_n dX4_isSigned_39 rfl ?_
      refine a_getI fl_X4_121 lyC_3 rfl dX4_isSigned_40 (key := 200) rfl ?_
      refine a_ineg dX4_isSigned_43 ?_
      refine a_goto dX4_isSigned_44 rfl ?_
      refine a_putI fl_X4_121 cf_X4 rfl rfl lyC_3 rfl dX4_isSigned_51 (key := 200) rfl fun σ10 => ?_
      refine a_iconst dX4_isSigned_54 ?_
      exact a_zretc (by decide) dX4_isSigned_55
    refine a_iconst dX4_isSigned_32 ?_
    exact a_zretc (by decide) dX4_isSigned_33
  refine a_iconst dX4_isSigned_8 ?_
  refine a_goto dX4_isSigned_9 rfl ?_
  refine a_istore_n (L' := [some (.ref 3), some (vi 1)]) dX4_isSigned_13 rfl rfl rfl rfl ?_
  refine a_iload_n dX4_isSigned_14 rfl ?_
  refine a_if_eq dX4_isSigned_15 rfl (fun _ => ?_) (fun _ => ?_)
  · refine a_aload_n dX4_isSigned_22 rfl ?_
    refine a_iconst dX4_isSigned_23 ?_
    refine a_bipush dX4_isSigned_24 bi_99 ?_
    refine a_callVi (as := [vi 0, vi 99]) mf_X4_117 lyC_3 rfl (c_Reader_isNumber F _ _ _) LYsame.rf dX4_isSigned_26 rfl rfl rfl rfl rfl rfl (Or.inl rfl) fun r11 σ12 => ?_
    refine a_if_ne dX4_isSigned_29 rfl (fun _ => ?_) (fun _ => ?_)
    · refine a_aload_n dX4_isSigned_34 rfl ?_
      refine a_iload_n dX4_isSigned_35 rfl ?_
      refine a_if_eq dX4_isSigned_36 rfl (fun _ => ?_) (fun _ => ?_)
      · refine a_aload_n dX4_isSigned_47 rfl ?_
        refine a_getI fl_X4_121 lyC_3 rfl dX4_isSigned_48 (key := 200) rfl ?_
        refine a_putI fl_X4_121 cf_X4 rfl rfl lyC_3 rfl dX4_isSigned_51 (key := 200) rfl fun σ13 => ?_
        refine a_iconst dX4_isSigned_54 ?_
        exact a_zretc (by decide) dX4_isSigned_55
      refine a_aload_n dX4_isSigned_39 rfl ?_
      refine a_getI fl_X4_121 lyC_3 rfl dX4_isSigned_40 (key := 200) rfl ?_
      refine a_ineg dX4_isSigned_43 ?_
      refine a_goto dX4_isSigned_44 rfl ?_
      refine a_putI fl_X4_121 cf_X4 rfl rfl lyC_3 rfl dX4_isSigned_51 (key := 200) rfl fun σ14 => ?_
      refine a_iconst dX4_isSigned_54 ?_
      exact a_zretc (by decide) dX4_isSigned_55
    refine a_iconst dX4_isSigned_32 ?_
    exact a_zretc (by decide) dX4_isSigned_33
  refine a_aload_n dX4_isSigned_18 rfl ?_
  refine a_callVv (as := []) mf_X4_48 lyC_3 rfl (c_Reader_advance F _) LYsame.rf dX4_isSigned_19 rfl rfl rfl rfl rfl rfl (Or.inl rfl) fun r15 σ16 => ?_
  refine a_aload_n dX4_isSigned_22 rfl ?_
  refine a_iconst dX4_isSigned_23 ?_
  refine a_bipush dX4_isSigned_24 bi_99 ?_
  refine a_callVi (as := [vi 0, vi 99]) mf_X4_117 lyC_3 rfl (c_Reader_isNumber F _ _ _) LYsame.rf dX4_isSigned_26 rfl rfl rfl rfl rfl rfl (Or.inl rfl) fun r17 σ18 => ?_
  refine a_if_ne dX4_isSigned_29 rfl (fun _ => ?_) (fun _ => ?_)
  · refine a_aload_n dX4_isSigned_34 rfl ?_
    refine a_iload_n dX4_isSigned_35 rfl ?_
    refine a_if_eq dX4_isSigned_36 rfl (fun _ => ?_) (fun _ => ?_)
    · refine a_aload_n dX4_isSigned_47 rfl ?_
      refine a_getI fl_X4_121 lyC_3 rfl dX4_isSigned_48 (key := 200) rfl ?_
      refine a_putI fl_X4_121 cf_X4 rfl rfl lyC_3 rfl dX4_isSigned_51 (key := 200) rfl fun σ19 => ?_
      refine a_iconst dX4_isSigned_54 ?_
      exact a_zretc (by decide) dX4_isSigned_55
    refine a_aload_n dX4_isSigned_39 rfl ?_
    refine a_getI fl_X4_121 lyC_3 rfl dX4_isSigned_40 (key := 200) rfl ?_
    refine a_ineg dX4_isSigned_43 ?_
    refine a_goto dX4_isSigned_44 rfl ?_
    refine a_putI fl_X4_121 cf_X4 rfl rfl lyC_3 rfl dX4_isSigned_51 (key := 200) rfl fun σ20 => ?_
    refine a_iconst dX4_isSigned_54 ?_
    exact a_zretc (by decide) dX4_isSigned_55
  refine a_iconst dX4_isSigned_32 ?_
  exact a_zretc (by decide) dX4_isSigned_33
def f_Compass_addBearing_compass1 (F : Nat) (σ : St) (x1 x2 x3 : Int) : Option (Int × St) := gd (rng (gF σ 2051) ∧ rng 8) (if (8 : Int) ≤ (gF σ 2051) then some (0, σ) else gd (inb (gF σ 2051) 8) (bs (sA σ 44 (Int.toNat (gF σ 2051)) x1) fun σ1 => gd (inb (gF σ1 2051) 8) (bs (sA σ1 48 (Int.toNat (gF σ1 2051)) x2) fun σ2 => gd (inb (gF σ2 2051) 8) (bs (sA σ2 52 (Int.toNat (gF σ2 2051)) x3) fun σ3 => bs (sF σ3 2051 ((gF σ3 2051) + 1)) fun σ4 => some (0, σ4)))))
set_option maxRecDepth 100000 in
set_option maxHeartbeats 4000000 in
theorem c_Compass_addBearing_compass1 {x : Bool} (F : Nat) (σ : St) (x1 x2 x3 : Int) : Ct 1 0 0 yX0_addBearing cX0_addBearing 4 none (LYC x false false) (LYC x false false) [.ref 32, vi x1, vi x2, vi x3] σ (f_Compass_addBearing_compass1 F σ x1 x2 x3) := by
  unfold f_Compass_addBearing_compass1
  refine Ct_of (d := 1) (kp := 0) (kd := 0) (own := RX0) (nL := 4) (ret := none) (LY := (LYC x false false)) (LYe := (LYC x false false)) (L := [some (.ref 32), some (vi x1), some (vi x2), some (vi x3)]) rfl (by decide +kernel) rfl rfl mf_X4_173.2.2.2.1 rfl fun K => ?_
  refine a_aload_n dX0_addBearing_0 rfl ?_
  refine a_getI fl_X0_41 lyC_32 rfl dX0_addBearing_1 (key := 2051) rfl ?_
  refine a_bipush dX0_addBearing_4 bi_8 ?_
  refine a_icmp_ge dX0_addBearing_6 rfl (fun _ => ?_) (fun _ => ?_)
  · exact a_vret dX0_addBearing_49
  refine a_aload_n dX0_addBearing_9 rfl ?_
  refine a_getR (c0 := 44) fl_X0_18 lyC_32 rfl dX0_addBearing_10 (key := 2052) rfl ?_
  refine a_aload_n dX0_addBearing_13 rfl ?_
  refine a_getI fl_X0_41 lyC_32 rfl dX0_addBearing_14 (key := 2051) rfl ?_
  refine a_iload_n dX0_addBearing_17 rfl ?_
  refine a_iast lyC_44 rfl dX0_addBearing_18 fun σ1 => ?_
  refine a_aload_n dX0_addBearing_19 rfl ?_
  refine a_getR (c0 := 48) fl_X0_21 lyC_32 rfl dX0_addBearing_20 (key := 2053) rfl ?_
  refine a_aload_n dX0_addBearing_23 rfl ?_
  refine a_getI fl_X0_41 lyC_32 rfl dX0_addBearing_24 (key := 2051) rfl ?_
  refine a_iload_n dX0_addBearing_27 rfl ?_
  refine a_iast lyC_48 rfl dX0_addBearing_28 fun σ2 => ?_
  refine a_aload_n dX0_addBearing_29 rfl ?_
  refine a_getR (c0 := 52) fl_X0_24 lyC_32 rfl dX0_addBearing_30 (key := 2054) rfl ?_
  refine a_aload_n dX0_addBearing_33 rfl ?_
  refine a_getI fl_X0_41 lyC_32 rfl dX0_addBearing_34 (key := 2051) rfl ?_
  refine a_iload_n dX0_addBearing_37 rfl ?_
  refine a_iast lyC_52 rfl dX0_addBearing_38 fun σ3 => ?_
  refine a_aload_n dX0_addBearing_39 rfl ?_
  refine a_dup dX0_addBearing_40 rfl ?_
  refine a_getI fl_X0_41 lyC_32 rfl dX0_addBearing_41 (key := 2051) rfl ?_
  refine a_iconst dX0_addBearing_44 ?_
  refine a_iadd dX0_addBearing_45 ?_
  refine a_putI fl_X0_41 cf_X0 rfl rfl lyC_32 rfl dX0_addBearing_46 (key := 2051) rfl fun σ4 => ?_
  exact a_vret dX0_addBearing_49
def f_Reader_readBearing_compass1 (F : Nat) (σ : St) : Option (Int × St) := gd (rng (gF σ 2051) ∧ rng 8) (if (gF σ 2051) < 8 then bnd (f_Reader_advance F σ) fun r1 σ2 => bnd (f_Reader_namedOne_stationName F σ2 (gF σ2 2048)) fun r3 σ4 => gd (rng r3 ∧ rng (-1)) (if r3 = (-1) then some (0, σ4) else bnd (f_Reader_advance F σ4) fun r5 σ6 => bnd (f_Reader_isSigned F σ6) fun r7 σ8 => gd (rng r7) (if r7 = 0 then some (0, σ8) else bv (gF σ8 200) fun x3_9 => bnd (f_Reader_advance F σ8) fun r10 σ11 => bnd (f_Reader_isSigned F σ11) fun r12 σ13 => gd (rng r12) (if r12 = 0 then some (0, σ13) else gd (rng x3_9) (if x3_9 = 0 then gd (rng (gF σ13 200)) (if (gF σ13 200) = 0 then bnd (f_Reader_blame F σ13 2) fun r22 σ23 => gd (isb r22) (some (r22, σ23)) else bnd (f_Compass_addBearing_compass1 F σ13 r3 x3_9 (gF σ13 200)) fun r18 σ19 => bnd (f_Reader_advance F σ19) fun r20 σ21 => some (1, σ21)) else bnd (f_Compass_addBearing_compass1 F σ13 r3 x3_9 (gF σ13 200)) fun r14 σ15 => bnd (f_Reader_advance F σ15) fun r16 σ17 => some (1, σ17))))) else bnd (f_Reader_blame F σ 4) fun r24 σ25 => gd (isb r24) (some (r24, σ25)))
set_option maxRecDepth 100000 in
set_option maxHeartbeats 4000000 in
theorem c_Reader_readBearing_compass1 (F : Nat) (σ : St) : Ct 4 0 1 yX4_readBearing cX4_readBearing 4 (some .boolean) (LYC true false false) (LYC true false false) [.ref 3, .ref 32] σ (f_Reader_readBearing_compass1 F σ) := by
  unfold f_Reader_readBearing_compass1
  refine Ct_of (d := 4) (kp := 0) (kd := 1) (own := RX4) (nL := 4) (ret := (some .boolean)) (LY := (LYC true false false)) (LYe := (LYC true false false)) (L := [some (.ref 3), some (.ref 32), none, none]) rfl (by decide +kernel) rfl rfl mf_X4_113.2.2.2.1 rfl fun K => ?_
  refine a_aload_n dX4_readBearing_0 rfl ?_
  refine a_getI fl_X4_170 lyC_32 rfl dX4_readBearing_1 (key := 2051) rfl ?_
  refine a_bipush dX4_readBearing_4 bi_8 ?_
  refine a_icmp_lt dX4_readBearing_6 rfl (fun _ => ?_) (fun _ => ?_)
  · refine a_aload_n dX4_readBearing_15 rfl ?_
    refine a_callVv (as := []) mf_X4_48 lyC_3 rfl (c_Reader_advance F _) LYsame.rf dX4_readBearing_16 rfl rfl rfl rfl rfl rfl (Or.inl rfl) fun r1 σ2 => ?_
    refine a_aload_n dX4_readBearing_19 rfl ?_
    refine a_aload_n dX4_readBearing_20 rfl ?_
    refine a_getR (c0 := 5) fl_X4_19 lyC_3 rfl dX4_readBearing_21 (key := 204) rfl ?_
    refine a_aload_n dX4_readBearing_24 rfl ?_
    refine a_getI fl_X4_140 lyC_32 rfl dX4_readBearing_25 (key := 2048) rfl ?_
    refine a_callVi (as := [.ref 5, vi (gF σ2 2048)]) mf_X4_156 lyC_3 rfl (c_Reader_namedOne_stationName F _ _) LYsame.rf dX4_readBearing_28 rfl rfl rfl rfl rfl rfl (Or.inl rfl) fun r3 σ4 => ?_
    refine a_istore_n (L' := [some (.ref 3), some (.ref 32), some (vi r3), none]) dX4_readBearing_31 rfl rfl rfl rfl ?_
    refine a_iload_n dX4_readBearing_32 rfl ?_
    refine a_iconst dX4_readBearing_33 ?_
    refine a_icmp_ne dX4_readBearing_34 rfl (fun _ => ?_) (fun _ => ?_)
    · refine a_aload_n dX4_readBearing_39 rfl ?_
      refine a_callVv (as := []) mf_X4_48 lyC_3 rfl (c_Reader_advance F _) LYsame.rf dX4_readBearing_40 rfl rfl rfl rfl rfl rfl (Or.inl rfl) fun r5 σ6 => ?_
      refine a_aload_n dX4_readBearing_43 rfl ?_
      refine a_callVi (as := []) mf_X4_164 lyC_3 rfl (c_Reader_isSigned F _) LYsame.rf dX4_readBearing_44 rfl rfl rfl rfl rfl rfl (Or.inl rfl) fun r7 σ8 => ?_
      refine a_if_ne dX4_readBearing_47 rfl (fun _ => ?_) (fun _ => ?_)
      · refine a_aload_n dX4_readBearing_52 rfl ?_
        refine a_getI fl_X4_121 lyC_3 rfl dX4_readBearing_53 (key := 200) rfl ?_
        refine a_bv fun x3_9 ex3_9 => ?_
        refine a_istore_n (y := x3_9) (L' := [some (.ref 3), some (.ref 32), some (vi r3), some (vi x3_9)]) dX4_readBearing_56 ex3_9 rfl rfl rfl ?_
        refine a_aload_n dX4_readBearing_57 rfl ?_
        refine a_callVv (as := []) mf_X4_48 lyC_3 rfl (c_Reader_advance F _) LYsame.rf dX4_readBearing_58 rfl rfl rfl rfl rfl rfl (Or.inl rfl) fun r10 σ11 => ?_
        refine a_aload_n dX4_readBearing_61 rfl ?_
        refine a_callVi (as := []) mf_X4_164 lyC_3 rfl (c_Reader_isSigned F _) LYsame.rf dX4_readBearing_62 rfl rfl rfl rfl rfl rfl (Or.inl rfl) fun r12 σ13 => ?_
        refine a_if_ne dX4_readBearing_65 rfl (fun _ => ?_) (fun _ => ?_)
        · refine a_iload_n dX4_readBearing_70 rfl ?_
          refine a_if_ne dX4_readBearing_71 rfl (fun _ => ?_) (fun _ => ?_)
          · refine a_aload_n dX4_readBearing_87 rfl ?_
            refine a_iload_n dX4_readBearing_88 rfl ?_
            refine a_iload_n dX4_readBearing_89 rfl ?_
            refine a_aload_n dX4_readBearing_90 rfl ?_
            refine a_getI fl_X4_121 lyC_3 rfl dX4_readBearing_91 (key := 200) rfl ?_
            refine a_callVv (as := [vi r3, vi x3_9, vi (gF σ13 200)]) mf_X4_173 lyC_32 rfl (c_Compass_addBearing_compass1 F _ _ _ _) LYsame.rf dX4_readBearing_94 rfl rfl rfl rfl rfl rfl (Or.inl rfl) fun r14 σ15 => ?_
            refine a_aload_n dX4_readBearing_97 rfl ?_
            refine a_callVv (as := []) mf_X4_48 lyC_3 rfl (c_Reader_advance F _) LYsame.rf dX4_readBearing_98 rfl rfl rfl rfl rfl rfl (Or.inl rfl) fun r16 σ17 => ?_
            refine a_iconst dX4_readBearing_101 ?_
            exact a_zretc (by decide) dX4_readBearing_102
          refine a_aload_n dX4_readBearing_74 rfl ?_
          refine a_getI fl_X4_121 lyC_3 rfl dX4_readBearing_75 (key := 200) rfl ?_
          refine a_if_ne dX4_readBearing_78 rfl (fun _ => ?_) (fun _ => ?_)
          · refine a_aload_n dX4_readBearing_87 rfl ?_
            refine a_iload_n dX4_readBearing_88 rfl ?_
            refine a_iload_n dX4_readBearing_89 rfl ?_
            refine a_aload_n dX4_readBearing_90 rfl ?_
            refine a_getI fl_X4_121 lyC_3 rfl dX4_readBearing_91 (key := 200) rfl ?_
            refine a_callVv (as := [vi r3, vi x3_9, vi (gF σ13 200)]) mf_X4_173 lyC_32 rfl (c_Compass_addBearing_compass1 F _ _ _ _) LYsame.rf dX4_readBearing_94 rfl rfl rfl rfl rfl rfl (Or.inl rfl) fun r18 σ19 => ?_
            refine a_aload_n dX4_readBearing_97 rfl ?_
            refine a_callVv (as := []) mf_X4_48 lyC_3 rfl (c_Reader_advance F _) LYsame.rf dX4_readBearing_98 rfl rfl rfl rfl rfl rfl (Or.inl rfl) fun r20 σ21 => ?_
            refine a_iconst dX4_readBearing_101 ?_
            exact a_zretc (by decide) dX4_readBearing_102
          refine a_aload_n dX4_readBearing_81 rfl ?_
          refine a_iconst dX4_readBearing_82 ?_
          refine a_callVi (as := [vi 2]) mf_X4_65 lyC_3 rfl (c_Reader_blame F _ _) LYsame.rf dX4_readBearing_83 rfl rfl rfl rfl rfl rfl (Or.inl rfl) fun r22 σ23 => ?_
          exact a_zret dX4_readBearing_86
        refine a_iconst dX4_readBearing_68 ?_
        exact a_zretc (by decide) dX4_readBearing_69
      refine a_iconst dX4_readBearing_50 ?_
      exact a_zretc (by decide) dX4_readBearing_51
    refine a_iconst dX4_readBearing_37 ?_
    exact a_zretc (by decide) dX4_readBearing_38
  refine a_aload_n dX4_readBearing_9 rfl ?_
  refine a_iconst dX4_readBearing_10 ?_
  refine a_callVi (as := [vi 4]) mf_X4_65 lyC_3 rfl (c_Reader_blame F _ _) LYsame.rf dX4_readBearing_11 rfl rfl rfl rfl rfl rfl (Or.inl rfl) fun r24 σ25 => ?_
  exact a_zret dX4_readBearing_14
def b_Reader_placeOf_senderName_2 (F : Nat) (self : St → Int → Int → Option (Int × St)) (σ : St) (x2 x3 : Int) : Option (Int × St) := gd (rng x3 ∧ rng x2) (if x2 ≤ x3 then some ((-1), σ) else gd (rng x3 ∧ rng 6) (if (6 : Int) ≤ x3 then some ((-1), σ) else gd (inb x3 6) (gd (rng64 (gA σ 4 (Int.toNat x3)) ∧ rng64 (gF σ 199)) (if (gA σ 4 (Int.toNat x3)) = (gF σ 199) then some (x3, σ) else bv (x3 + 1) fun x3_1 => self σ x2 x3_1))))
def l_Reader_placeOf_senderName_2 (F : Nat) : Nat → St → Int → Int → Option (Int × St)
  | 0 => fun _ _ _ => none
  | n + 1 => fun σ x2 x3 => b_Reader_placeOf_senderName_2 F (l_Reader_placeOf_senderName_2 F n) σ x2 x3
def f_Reader_placeOf_senderName (F : Nat) (σ : St) (x2 : Int) : Option (Int × St) := l_Reader_placeOf_senderName_2 F F σ x2 0
set_option maxRecDepth 100000 in
set_option maxHeartbeats 4000000 in
theorem cb_Reader_placeOf_senderName_2 {K : KX} (F : Nat) (self : St → Int → Int → Option (Int × St)) (hself : ∀ σ x2 x3, WA 1 0 1 cX4_placeOf RX4 4 (some .int) (LYC true false false) (LYC true false false) K 2 [some (.ref 3), some (.ref 4), some (vi x2), some (vi x3)] [] σ (self σ x2 x3)) (σ : St) (x2 x3 : Int) : WA 1 0 1 cX4_placeOf RX4 4 (some .int) (LYC true false false) (LYC true false false) K 2 [some (.ref 3), some (.ref 4), some (vi x2), some (vi x3)] [] σ (b_Reader_placeOf_senderName_2 F self σ x2 x3) := by
  unfold b_Reader_placeOf_senderName_2
  refine a_iload_n dX4_placeOf_2 rfl ?_
  refine a_iload_n dX4_placeOf_3 rfl ?_
  refine a_icmp_ge dX4_placeOf_4 rfl (fun _ => ?_) (fun _ => ?_)
  · refine a_iconst dX4_placeOf_32 ?_
    exact a_iret dX4_placeOf_33
  refine a_iload_n dX4_placeOf_7 rfl ?_
  refine a_aload_n dX4_placeOf_8 rfl ?_
  refine a_alen lyC_4 dX4_placeOf_9 ?_
  refine a_icmp_ge dX4_placeOf_10 rfl (fun _ => ?_) (fun _ => ?_)
  · refine a_iconst dX4_placeOf_32 ?_
    exact a_iret dX4_placeOf_33
  refine a_aload_n dX4_placeOf_13 rfl ?_
  refine a_iload_n dX4_placeOf_14 rfl ?_
  refine a_lald lyC_4 rfl dX4_placeOf_15 ?_
  refine a_aload_n dX4_placeOf_16 rfl ?_
  refine a_getL fl_X4_79 lyC_3 rfl dX4_placeOf_17 (key := 199) rfl ?_
  refine a_lcmp_ne dX4_placeOf_20 dX4_placeOf_21 rfl (fun _ => ?_) (fun _ => ?_)
  · refine a_bv fun x3_1 ex3_1 => ?_
    refine a_iinc (y := x3_1) (L' := [some (.ref 3), some (.ref 4), some (vi x2), some (vi x3_1)]) dX4_placeOf_26 rfl ex3_1 rfl rfl rfl ?_
    refine a_goto dX4_placeOf_29 rfl ?_
    exact hself _ _ _
  refine a_iload_n dX4_placeOf_24 rfl ?_
  exact a_iret dX4_placeOf_25
set_option maxRecDepth 100000 in
set_option maxHeartbeats 4000000 in
theorem cl_Reader_placeOf_senderName_2 {K : KX} (F : Nat) : ∀ (n : Nat) (σ : St) (x2 x3 : Int), WA 1 0 1 cX4_placeOf RX4 4 (some .int) (LYC true false false) (LYC true false false) K 2 [some (.ref 3), some (.ref 4), some (vi x2), some (vi x3)] [] σ (l_Reader_placeOf_senderName_2 F n σ x2 x3)
  | 0, _, _, _ => a_none
  | n + 1, σ, x2, x3 => cb_Reader_placeOf_senderName_2 F _ (cl_Reader_placeOf_senderName_2 F n) σ x2 x3
set_option maxRecDepth 100000 in
set_option maxHeartbeats 4000000 in
theorem c_Reader_placeOf_senderName (F : Nat) (σ : St) (x2 : Int) : Ct 1 0 1 yX4_placeOf cX4_placeOf 4 (some .int) (LYC true false false) (LYC true false false) [.ref 3, .ref 4, vi x2] σ (f_Reader_placeOf_senderName F σ x2) := by
  unfold f_Reader_placeOf_senderName
  refine Ct_of (d := 1) (kp := 0) (kd := 1) (own := RX4) (nL := 4) (ret := (some .int)) (LY := (LYC true false false)) (LYe := (LYC true false false)) (L := [some (.ref 3), some (.ref 4), some (vi x2), none]) rfl (by decide +kernel) rfl rfl mf_X4_186.2.2.2.1 rfl fun K => ?_
  refine a_iconst dX4_placeOf_0 ?_
  refine a_istore_n (L' := [some (.ref 3), some (.ref 4), some (vi x2), some (vi 0)]) dX4_placeOf_1 rfl rfl rfl rfl ?_
  exact cl_Reader_placeOf_senderName_2 F F _ _ _
def f_Reader_isNewName (F : Nat) (σ : St) (x1 x2 : Int) : Option (Int × St) := bnd (f_Reader_isName F σ) fun r1 σ2 => gd (rng r1) (if r1 = 0 then bnd (f_Reader_blame F σ2 1) fun r13 σ14 => gd (isb r13) (some (r13, σ14)) else bnd (f_Reader_placeOf_senderName F σ2 x1) fun r3 σ4 => gd (rng r3 ∧ rng (-1)) (if r3 = (-1) then bnd (f_Reader_placeOf_stationName F σ4 x2) fun r7 σ8 => gd (rng r7 ∧ rng (-1)) (if r7 = (-1) then gd (rng 0) (if (0 : Int) = 0 then some (1, σ8) else bnd (f_Reader_blame F σ8 3) fun r9 σ10 => gd (rng r9) (if r9 = 0 then some (0, σ10) else some (1, σ10))) else gd (rng 1) (if (1 : Int) = 0 then some (1, σ8) else bnd (f_Reader_blame F σ8 3) fun r11 σ12 => gd (rng r11) (if r11 = 0 then some (0, σ12) else some (1, σ12)))) else gd (rng 1) (if (1 : Int) = 0 then some (1, σ4) else bnd (f_Reader_blame F σ4 3) fun r5 σ6 => gd (rng r5) (if r5 = 0 then some (0, σ6) else some (1, σ6)))))
set_option maxRecDepth 100000 in
set_option maxHeartbeats 4000000 in
theorem c_Reader_isNewName (F : Nat) (σ : St) (x1 x2 : Int) : Ct 2 0 1 yX4_isNewName cX4_isNewName 4 (some .boolean) (LYC true false false) (LYC true false false) [.ref 3, vi x1, vi x2] σ (f_Reader_isNewName F σ x1 x2) := by
  unfold f_Reader_isNewName
  refine Ct_of (d := 2) (kp := 0) (kd := 1) (own := RX4) (nL := 4) (ret := (some .boolean)) (LY := (LYC true false false)) (LYe := (LYC true false false)) (L := [some (.ref 3), some (vi x1), some (vi x2), none]) rfl (by decide +kernel) rfl rfl mf_X4_145.2.2.2.1 rfl fun K => ?_
  refine a_aload_n dX4_isNewName_0 rfl ?_
  refine a_callVi (as := []) mf_X4_183 lyC_3 rfl (c_Reader_isName F _) LYsame.rf dX4_isNewName_1 rfl rfl rfl rfl rfl rfl (Or.inl rfl) fun r1 σ2 => ?_
  refine a_if_ne dX4_isNewName_4 rfl (fun _ => ?_) (fun _ => ?_)
  · refine a_aload_n dX4_isNewName_13 rfl ?_
    refine a_aload_n dX4_isNewName_14 rfl ?_
    refine a_getR (c0 := 4) fl_X4_15 lyC_3 rfl dX4_isNewName_15 (key := 203) rfl ?_
    refine a_iload_n dX4_isNewName_18 rfl ?_
    refine a_callVi (as := [.ref 4, vi x1]) mf_X4_186 lyC_3 rfl (c_Reader_placeOf_senderName F _ _) LYsame.rf dX4_isNewName_19 rfl rfl rfl rfl rfl rfl (Or.inl rfl) fun r3 σ4 => ?_
    refine a_iconst dX4_isNewName_22 ?_
    refine a_icmp_ne dX4_isNewName_23 rfl (fun _ => ?_) (fun _ => ?_)
    · refine a_iconst dX4_isNewName_39 ?_
      refine a_goto dX4_isNewName_40 rfl ?_
      refine a_istore_n (L' := [some (.ref 3), some (vi x1), some (vi x2), some (vi 1)]) dX4_isNewName_44 rfl rfl rfl rfl ?_
      refine a_iload_n dX4_isNewName_45 rfl ?_
      refine a_if_eq dX4_isNewName_46 rfl (fun _ => ?_) (fun _ => ?_)
      · refine a_iconst dX4_isNewName_57 ?_
        refine a_goto dX4_isNewName_58 rfl ?_
        exact a_zretc (by decide) dX4_isNewName_62
      refine a_aload_n dX4_isNewName_49 rfl ?_
      refine a_iconst dX4_isNewName_50 ?_
      refine a_callVi (as := [vi 3]) mf_X4_65 lyC_3 rfl (c_Reader_blame F _ _) LYsame.rf dX4_isNewName_51 rfl rfl rfl rfl rfl rfl (Or.inl rfl) fun r5 σ6 => ?_
      refine a_if_eq dX4_isNewName_54 rfl (fun _ => ?_) (fun _ => ?_)
      · refine a_iconst dX4_isNewName_61 ?_
        exact a_zretc (by decide) dX4_isNewName_62
      refine a_iconst dX4_isNewName_57 ?_
      refine a_goto dX4_isNewName_58 rfl ?_
      exact a_zretc (by decide) dX4_isNewName_62
    refine a_aload_n dX4_isNewName_26 rfl ?_
    refine a_aload_n dX4_isNewName_27 rfl ?_
    refine a_getR (c0 := 5) fl_X4_19 lyC_3 rfl dX4_isNewName_28 (key := 204) rfl ?_
    refine a_iload_n dX4_isNewName_31 rfl ?_
    refine a_callVi (as := [.ref 5, vi x2]) mf_X4_186 lyC_3 rfl (c_Reader_placeOf_stationName F _ _) LYsame.rf dX4_isNewName_32 rfl rfl rfl rfl rfl rfl (Or.inl rfl) fun r7 σ8 => ?_
    refine a_iconst dX4_isNewName_35 ?_
    refine a_icmp_eq dX4_isNewName_36 rfl (fun _ => ?_) (fun _ => ?_)
    · refine a_iconst dX4_isNewName_43 ?_
      refine a_istore_n (L' := [some (.ref 3), some (vi x1), some (vi x2), some (vi 0)]) dX4_isNewName_44 rfl rfl rfl rfl ?_
      refine a_iload_n dX4_isNewName_45 rfl ?_
      refine a_if_eq dX4_isNewName_46 rfl (fun _ => ?_) (fun _ => ?_)
      · refine a_iconst dX4_isNewName_57 ?_
        refine a_goto dX4_isNewName_58 rfl ?_
        exact a_zretc (by decide) dX4_isNewName_62
      refine a_aload_n dX4_isNewName_49 rfl ?_
      refine a_iconst dX4_isNewName_50 ?_
      refine a_callVi (as := [vi 3]) mf_X4_65 lyC_3 rfl (c_Reader_blame F _ _) LYsame.rf dX4_isNewName_51 rfl rfl rfl rfl rfl rfl (Or.inl rfl) fun r9 σ10 => ?_
      refine a_if_eq dX4_isNewName_54 rfl (fun _ => ?_) (fun _ => ?_)
      · refine a_iconst dX4_isNewName_61 ?_
        exact a_zretc (by decide) dX4_isNewName_62
      refine a_iconst dX4_isNewName_57 ?_
      refine a_goto dX4_isNewName_58 rfl ?_
      exact a_zretc (by decide) dX4_isNewName_62
    refine a_iconst dX4_isNewName_39 ?_
    refine a_goto dX4_isNewName_40 rfl ?_
    refine a_istore_n (L' := [some (.ref 3), some (vi x1), some (vi x2), some (vi 1)]) dX4_isNewName_44 rfl rfl rfl rfl ?_
    refine a_iload_n dX4_isNewName_45 rfl ?_
    refine a_if_eq dX4_isNewName_46 rfl (fun _ => ?_) (fun _ => ?_)
    · refine a_iconst dX4_isNewName_57 ?_
      refine a_goto dX4_isNewName_58 rfl ?_
      exact a_zretc (by decide) dX4_isNewName_62
    refine a_aload_n dX4_isNewName_49 rfl ?_
    refine a_iconst dX4_isNewName_50 ?_
    refine a_callVi (as := [vi 3]) mf_X4_65 lyC_3 rfl (c_Reader_blame F _ _) LYsame.rf dX4_isNewName_51 rfl rfl rfl rfl rfl rfl (Or.inl rfl) fun r11 σ12 => ?_
    refine a_if_eq dX4_isNewName_54 rfl (fun _ => ?_) (fun _ => ?_)
    · refine a_iconst dX4_isNewName_61 ?_
      exact a_zretc (by decide) dX4_isNewName_62
    refine a_iconst dX4_isNewName_57 ?_
    refine a_goto dX4_isNewName_58 rfl ?_
    exact a_zretc (by decide) dX4_isNewName_62
  refine a_aload_n dX4_isNewName_7 rfl ?_
  refine a_iconst dX4_isNewName_8 ?_
  refine a_callVi (as := [vi 1]) mf_X4_65 lyC_3 rfl (c_Reader_blame F _ _) LYsame.rf dX4_isNewName_9 rfl rfl rfl rfl rfl rfl (Or.inl rfl) fun r13 σ14 => ?_
  exact a_zret dX4_isNewName_12
def f_Compass_addStation_compass1 (F : Nat) (σ : St) (x1 x2 : Int) : Option (Int × St) := gd (rng (gF σ 2048) ∧ rng 4) (if (4 : Int) ≤ (gF σ 2048) then some (0, σ) else gd (inb (gF σ 2048) 4) (bs (sA σ 36 (Int.toNat (gF σ 2048)) x1) fun σ1 => gd (inb (gF σ1 2048) 4) (bs (sA σ1 40 (Int.toNat (gF σ1 2048)) x2) fun σ2 => bs (sF σ2 2048 ((gF σ2 2048) + 1)) fun σ3 => some (0, σ3))))
set_option maxRecDepth 100000 in
set_option maxHeartbeats 4000000 in
theorem c_Compass_addStation_compass1 {x : Bool} (F : Nat) (σ : St) (x1 x2 : Int) : Ct 1 0 0 yX0_addStation cX0_addStation 3 none (LYC x false false) (LYC x false false) [.ref 32, vi x1, vi x2] σ (f_Compass_addStation_compass1 F σ x1 x2) := by
  unfold f_Compass_addStation_compass1
  refine Ct_of (d := 1) (kp := 0) (kd := 0) (own := RX0) (nL := 3) (ret := none) (LY := (LYC x false false)) (LYe := (LYC x false false)) (L := [some (.ref 32), some (vi x1), some (vi x2)]) rfl (by decide +kernel) rfl rfl mf_X4_167.2.2.2.1 rfl fun K => ?_
  refine a_aload_n dX0_addStation_0 rfl ?_
  refine a_getI fl_X0_31 lyC_32 rfl dX0_addStation_1 (key := 2048) rfl ?_
  refine a_iconst dX0_addStation_4 ?_
  refine a_icmp_ge dX0_addStation_5 rfl (fun _ => ?_) (fun _ => ?_)
  · exact a_vret dX0_addStation_38
  refine a_aload_n dX0_addStation_8 rfl ?_
  refine a_getR (c0 := 36) fl_X0_9 lyC_32 rfl dX0_addStation_9 (key := 2049) rfl ?_
  refine a_aload_n dX0_addStation_12 rfl ?_
  refine a_getI fl_X0_31 lyC_32 rfl dX0_addStation_13 (key := 2048) rfl ?_
  refine a_iload_n dX0_addStation_16 rfl ?_
  refine a_iast lyC_36 rfl dX0_addStation_17 fun σ1 => ?_
  refine a_aload_n dX0_addStation_18 rfl ?_
  refine a_getR (c0 := 40) fl_X0_15 lyC_32 rfl dX0_addStation_19 (key := 2050) rfl ?_
  refine a_aload_n dX0_addStation_22 rfl ?_
  refine a_getI fl_X0_31 lyC_32 rfl dX0_addStation_23 (key := 2048) rfl ?_
  refine a_iload_n dX0_addStation_26 rfl ?_
  refine a_iast lyC_40 rfl dX0_addStation_27 fun σ2 => ?_
  refine a_aload_n dX0_addStation_28 rfl ?_
  refine a_dup dX0_addStation_29 rfl ?_
  refine a_getI fl_X0_31 lyC_32 rfl dX0_addStation_30 (key := 2048) rfl ?_
  refine a_iconst dX0_addStation_33 ?_
  refine a_iadd dX0_addStation_34 ?_
  refine a_putI fl_X0_31 cf_X0 rfl rfl lyC_32 rfl dX0_addStation_35 (key := 2048) rfl fun σ3 => ?_
  exact a_vret dX0_addStation_38
def f_Reader_readStation_compass1 (F : Nat) (σ : St) (x2 : Int) : Option (Int × St) := gd (rng (gF σ 2048) ∧ rng 4) (if (gF σ 2048) < 4 then bnd (f_Reader_advance F σ) fun r1 σ2 => bnd (f_Reader_isNewName F σ2 x2 (gF σ2 2048)) fun r3 σ4 => gd (rng r3) (if r3 = 0 then some (0, σ4) else gd (inb (gF σ4 2048) 4) (bs (sA σ4 5 (Int.toNat (gF σ4 2048)) (gF σ4 199)) fun σ5 => bnd (f_Reader_advance F σ5) fun r6 σ7 => bnd (f_Reader_isSigned F σ7) fun r8 σ9 => gd (rng r8) (if r8 = 0 then some (0, σ9) else bv (gF σ9 200) fun x3_10 => bnd (f_Reader_advance F σ9) fun r11 σ12 => bnd (f_Reader_isSigned F σ12) fun r13 σ14 => gd (rng r13) (if r13 = 0 then some (0, σ14) else bnd (f_Compass_addStation_compass1 F σ14 x3_10 (gF σ14 200)) fun r15 σ16 => bnd (f_Reader_advance F σ16) fun r17 σ18 => some (1, σ18))))) else bnd (f_Reader_blame F σ 4) fun r19 σ20 => gd (isb r19) (some (r19, σ20)))
set_option maxRecDepth 100000 in
set_option maxHeartbeats 4000000 in
theorem c_Reader_readStation_compass1 (F : Nat) (σ : St) (x2 : Int) : Ct 4 0 1 yX4_readStation cX4_readStation 4 (some .boolean) (LYC true false false) (LYC true false false) [.ref 3, .ref 32, vi x2] σ (f_Reader_readStation_compass1 F σ x2) := by
  unfold f_Reader_readStation_compass1
  refine Ct_of (d := 4) (kp := 0) (kd := 1) (own := RX4) (nL := 4) (ret := (some .boolean)) (LY := (LYC true false false)) (LYe := (LYC true false false)) (L := [some (.ref 3), some (.ref 32), some (vi x2), none]) rfl (by decide +kernel) rfl rfl mf_X4_107.2.2.2.1 rfl fun K => ?_
  refine a_aload_n dX4_readStation_0 rfl ?_
  refine a_getI fl_X4_140 lyC_32 rfl dX4_readStation_1 (key := 2048) rfl ?_
  refine a_iconst dX4_readStation_4 ?_
  refine a_icmp_lt dX4_readStation_5 rfl (fun _ => ?_) (fun _ => ?_)
  · refine a_aload_n dX4_readStation_14 rfl ?_
    refine a_callVv (as := []) mf_X4_48 lyC_3 rfl (c_Reader_advance F _) LYsame.rf dX4_readStation_15 rfl rfl rfl rfl rfl rfl (Or.inl rfl) fun r1 σ2 => ?_
    refine a_aload_n dX4_readStation_18 rfl ?_
    refine a_iload_n dX4_readStation_19 rfl ?_
    refine a_aload_n dX4_readStation_20 rfl ?_
    refine a_getI fl_X4_140 lyC_32 rfl dX4_readStation_21 (key := 2048) rfl ?_
    refine a_callVi (as := [vi x2, vi (gF σ2 2048)]) mf_X4_145 lyC_3 rfl (c_Reader_isNewName F _ _ _) LYsame.rf dX4_readStation_24 rfl rfl rfl rfl rfl rfl (Or.inl rfl) fun r3 σ4 => ?_
    refine a_if_ne dX4_readStation_27 rfl (fun _ => ?_) (fun _ => ?_)
    · refine a_aload_n dX4_readStation_32 rfl ?_
      refine a_getR (c0 := 5) fl_X4_19 lyC_3 rfl dX4_readStation_33 (key := 204) rfl ?_
      refine a_aload_n dX4_readStation_36 rfl ?_
      refine a_getI fl_X4_140 lyC_32 rfl dX4_readStation_37 (key := 2048) rfl ?_
      refine a_aload_n dX4_readStation_40 rfl ?_
      refine a_getL fl_X4_79 lyC_3 rfl dX4_readStation_41 (key := 199) rfl ?_
      refine a_last lyC_5 rfl dX4_readStation_44 fun σ5 => ?_
      refine a_aload_n dX4_readStation_45 rfl ?_
      refine a_callVv (as := []) mf_X4_48 lyC_3 rfl (c_Reader_advance F _) LYsame.rf dX4_readStation_46 rfl rfl rfl rfl rfl rfl (Or.inl rfl) fun r6 σ7 => ?_
      refine a_aload_n dX4_readStation_49 rfl ?_
      refine a_callVi (as := []) mf_X4_164 lyC_3 rfl (c_Reader_isSigned F _) LYsame.rf dX4_readStation_50 rfl rfl rfl rfl rfl rfl (Or.inl rfl) fun r8 σ9 => ?_
      refine a_if_ne dX4_readStation_53 rfl (fun _ => ?_) (fun _ => ?_)
      · refine a_aload_n dX4_readStation_58 rfl ?_
        refine a_getI fl_X4_121 lyC_3 rfl dX4_readStation_59 (key := 200) rfl ?_
        refine a_bv fun x3_10 ex3_10 => ?_
        refine a_istore_n (y := x3_10) (L' := [some (.ref 3), some (.ref 32), some (vi x2), some (vi x3_10)]) dX4_readStation_62 ex3_10 rfl rfl rfl ?_
        refine a_aload_n dX4_readStation_63 rfl ?_
        refine a_callVv (as := []) mf_X4_48 lyC_3 rfl (c_Reader_advance F _) LYsame.rf dX4_readStation_64 rfl rfl rfl rfl rfl rfl (Or.inl rfl) fun r11 σ12 => ?_
        refine a_aload_n dX4_readStation_67 rfl ?_
        refine a_callVi (as := []) mf_X4_164 lyC_3 rfl (c_Reader_isSigned F _) LYsame.rf dX4_readStation_68 rfl rfl rfl rfl rfl rfl (Or.inl rfl) fun r13 σ14 => ?_
        refine a_if_ne dX4_readStation_71 rfl (fun _ => ?_) (fun _ => ?_)
        · refine a_aload_n dX4_readStation_76 rfl ?_
          refine a_iload_n dX4_readStation_77 rfl ?_
          refine a_aload_n dX4_readStation_78 rfl ?_
          refine a_getI fl_X4_121 lyC_3 rfl dX4_readStation_79 (key := 200) rfl ?_
          refine a_callVv (as := [vi x3_10, vi (gF σ14 200)]) mf_X4_167 lyC_32 rfl (c_Compass_addStation_compass1 F _ _ _) LYsame.rf dX4_readStation_82 rfl rfl rfl rfl rfl rfl (Or.inl rfl) fun r15 σ16 => ?_
          refine a_aload_n dX4_readStation_85 rfl ?_
          refine a_callVv (as := []) mf_X4_48 lyC_3 rfl (c_Reader_advance F _) LYsame.rf dX4_readStation_86 rfl rfl rfl rfl rfl rfl (Or.inl rfl) fun r17 σ18 => ?_
          refine a_iconst dX4_readStation_89 ?_
          exact a_zretc (by decide) dX4_readStation_90
        refine a_iconst dX4_readStation_74 ?_
        exact a_zretc (by decide) dX4_readStation_75
      refine a_iconst dX4_readStation_56 ?_
      exact a_zretc (by decide) dX4_readStation_57
    refine a_iconst dX4_readStation_30 ?_
    exact a_zretc (by decide) dX4_readStation_31
  refine a_aload_n dX4_readStation_8 rfl ?_
  refine a_iconst dX4_readStation_9 ?_
  refine a_callVi (as := [vi 4]) mf_X4_65 lyC_3 rfl (c_Reader_blame F _ _) LYsame.rf dX4_readStation_10 rfl rfl rfl rfl rfl rfl (Or.inl rfl) fun r19 σ20 => ?_
  exact a_zret dX4_readStation_13
def f_Reader_isWord (F : Nat) (σ : St) (x1 : Int) : Option (Int × St) := gd (rng (gF σ 197) ∧ rng 2) (if (gF σ 197) = 2 then gd (rng64 (gF σ 199) ∧ rng64 x1) (if (gF σ 199) = x1 then some (1, σ) else some (0, σ)) else some (0, σ))
set_option maxRecDepth 100000 in
set_option maxHeartbeats 4000000 in
theorem c_Reader_isWord (F : Nat) (σ : St) (x1 : Int) : Ct 1 0 1 yX4_isWord cX4_isWord 3 (some .boolean) (LYC true false false) (LYC true false false) [.ref 3, vl x1] σ (f_Reader_isWord F σ x1) := by
  unfold f_Reader_isWord
  refine Ct_of (d := 1) (kp := 0) (kd := 1) (own := RX4) (nL := 3) (ret := (some .boolean)) (LY := (LYC true false false)) (LYe := (LYC true false false)) (L := [some (.ref 3), some (vl x1), none]) rfl (by decide +kernel) rfl rfl mf_X4_132.2.2.2.1 rfl fun K => ?_
  refine a_aload_n dX4_isWord_0 rfl ?_
  refine a_getI fl_X4_51 lyC_3 rfl dX4_isWord_1 (key := 197) rfl ?_
  refine a_iconst dX4_isWord_4 ?_
  refine a_icmp_ne dX4_isWord_5 rfl (fun _ => ?_) (fun _ => ?_)
  · refine a_iconst dX4_isWord_21 ?_
    exact a_zretc (by decide) dX4_isWord_22
  refine a_aload_n dX4_isWord_8 rfl ?_
  refine a_getL fl_X4_79 lyC_3 rfl dX4_isWord_9 (key := 199) rfl ?_
  refine a_lload_n dX4_isWord_12 rfl ?_
  refine a_lcmp_ne dX4_isWord_13 dX4_isWord_14 rfl (fun _ => ?_) (fun _ => ?_)
  · refine a_iconst dX4_isWord_21 ?_
    exact a_zretc (by decide) dX4_isWord_22
  refine a_iconst dX4_isWord_17 ?_
  refine a_goto dX4_isWord_18 rfl ?_
  exact a_zretc (by decide) dX4_isWord_22
def f_Scene_addSender_scene1 (F : Nat) (σ : St) (x1 x2 x3 x4 : Int) : Option (Int × St) := gd (rng (gF σ 5126) ∧ rng 6) (if (6 : Int) ≤ (gF σ 5126) then some (0, σ) else gd (inb (gF σ 5126) 6) (bs (sA σ 64 (Int.toNat (gF σ 5126)) x1) fun σ1 => gd (inb (gF σ1 5126) 6) (bs (sA σ1 68 (Int.toNat (gF σ1 5126)) x2) fun σ2 => gd (inb (gF σ2 5126) 6) (bs (sA σ2 72 (Int.toNat (gF σ2 5126)) x3) fun σ3 => gd (rng x4) (if x4 < 0 then gd (inb (gF σ3 5126) 6) (bs (sA σ3 76 (Int.toNat (gF σ3 5126)) (gF σ3 5126)) fun σ4 => bs (sF σ4 5126 ((gF σ4 5126) + 1)) fun σ5 => some (0, σ5)) else gd (rng x4 ∧ rng (gF σ3 5126)) (if x4 < (gF σ3 5126) then gd (inb x4 6) (gd (inb (gF σ3 5126) 6) (bs (sA σ3 76 (Int.toNat (gF σ3 5126)) (gA σ3 76 (Int.toNat x4))) fun σ6 => bs (sF σ6 5126 ((gF σ6 5126) + 1)) fun σ7 => some (0, σ7))) else gd (inb (gF σ3 5126) 6) (bs (sA σ3 76 (Int.toNat (gF σ3 5126)) (gF σ3 5126)) fun σ8 => bs (sF σ8 5126 ((gF σ8 5126) + 1)) fun σ9 => some (0, σ9))))))))
set_option maxRecDepth 100000 in
set_option maxHeartbeats 4000000 in
theorem c_Scene_addSender_scene1 {x : Bool} (F : Nat) (σ : St) (x1 x2 x3 x4 : Int) : Ct 1 0 0 yX7_addSender cX7_addSender 5 none (LYC x false false) (LYC x false false) [.ref 80, vi x1, vi x2, vi x3, vi x4] σ (f_Scene_addSender_scene1 F σ x1 x2 x3 x4) := by
  unfold f_Scene_addSender_scene1
  refine Ct_of (d := 1) (kp := 0) (kd := 0) (own := RX7) (nL := 5) (ret := none) (LY := (LYC x false false)) (LYe := (LYC x false false)) (L := [some (.ref 80), some (vi x1), some (vi x2), some (vi x3), some (vi x4)]) rfl (by decide +kernel) rfl rfl mf_X4_160.2.2.2.1 rfl fun K => ?_
  refine a_aload_n dX7_addSender_0 rfl ?_
  refine a_getI fl_X7_51 lyC_80 rfl dX7_addSender_1 (key := 5126) rfl ?_
  refine a_bipush dX7_addSender_4 bi_6 ?_
  refine a_icmp_ge dX7_addSender_6 rfl (fun _ => ?_) (fun _ => ?_)
  · exact a_vret dX7_addSender_86
  refine a_aload_n dX7_addSender_9 rfl ?_
  refine a_getR (c0 := 64) fl_X7_32 lyC_80 rfl dX7_addSender_10 (key := 5127) rfl ?_
  refine a_aload_n dX7_addSender_13 rfl ?_
  refine a_getI fl_X7_51 lyC_80 rfl dX7_addSender_14 (key := 5126) rfl ?_
  refine a_iload_n dX7_addSender_17 rfl ?_
  refine a_iast lyC_64 rfl dX7_addSender_18 fun σ1 => ?_
  refine a_aload_n dX7_addSender_19 rfl ?_
  refine a_getR (c0 := 68) fl_X7_35 lyC_80 rfl dX7_addSender_20 (key := 5128) rfl ?_
  refine a_aload_n dX7_addSender_23 rfl ?_
  refine a_getI fl_X7_51 lyC_80 rfl dX7_addSender_24 (key := 5126) rfl ?_
  refine a_iload_n dX7_addSender_27 rfl ?_
  refine a_iast lyC_68 rfl dX7_addSender_28 fun σ2 => ?_
  refine a_aload_n dX7_addSender_29 rfl ?_
  refine a_getR (c0 := 72) fl_X7_38 lyC_80 rfl dX7_addSender_30 (key := 5129) rfl ?_
  refine a_aload_n dX7_addSender_33 rfl ?_
  refine a_getI fl_X7_51 lyC_80 rfl dX7_addSender_34 (key := 5126) rfl ?_
  refine a_iload_n dX7_addSender_37 rfl ?_
  refine a_iast lyC_72 rfl dX7_addSender_38 fun σ3 => ?_
  refine a_aload_n dX7_addSender_39 rfl ?_
  refine a_getR (c0 := 76) fl_X7_41 lyC_80 rfl dX7_addSender_40 (key := 5130) rfl ?_
  refine a_aload_n dX7_addSender_43 rfl ?_
  refine a_getI fl_X7_51 lyC_80 rfl dX7_addSender_44 (key := 5126) rfl ?_
  refine a_iload dX7_addSender_47 rfl ?_
  refine a_if_lt dX7_addSender_49 rfl (fun _ => ?_) (fun _ => ?_)
  · refine a_aload_n dX7_addSender_61 rfl ?_
    refine a_getI fl_X7_51 lyC_80 rfl dX7_addSender_62 (key := 5126) rfl ?_
    refine a_goto dX7_addSender_65 rfl ?_
    refine a_iast lyC_76 rfl dX7_addSender_75 fun σ4 => ?_
    refine a_aload_n dX7_addSender_76 rfl ?_
    refine a_dup dX7_addSender_77 rfl ?_
    refine a_getI fl_X7_51 lyC_80 rfl dX7_addSender_78 (key := 5126) rfl ?_
    refine a_iconst dX7_addSender_81 ?_
    refine a_iadd dX7_addSender_82 ?_
    refine a_putI fl_X7_51 cf_X7 rfl rfl lyC_80 rfl dX7_addSender_83 (key := 5126) rfl fun σ5 => ?_
    exact a_vret dX7_addSender_86
  refine a_iload dX7_addSender_52 rfl ?_
  refine a_aload_n dX7_addSender_54 rfl ?_
  refine a_getI fl_X7_51 lyC_80 rfl dX7_addSender_55 (key := 5126) rfl ?_
  refine a_icmp_lt dX7_addSender_58 rfl (fun _ => ?_) (fun _ => ?_)
  · refine a_aload_n dX7_addSender_68 rfl ?_
    refine a_getR (c0 := 76) fl_X7_41 lyC_80 rfl dX7_addSender_69 (key := 5130) rfl ?_
    refine a_iload dX7_addSender_72 rfl ?_
    refine a_iald lyC_76 rfl dX7_addSender_74 ?_
    refine a_iast lyC_76 rfl dX7_addSender_75 fun σ6 => ?_
    refine a_aload_n dX7_addSender_76 rfl ?_
    refine a_dup dX7_addSender_77 rfl ?_
    refine a_getI fl_X7_51 lyC_80 rfl dX7_addSender_78 (key := 5126) rfl ?_
    refine a_iconst dX7_addSender_81 ?_
    refine a_iadd dX7_addSender_82 ?_
    refine a_putI fl_X7_51 cf_X7 rfl rfl lyC_80 rfl dX7_addSender_83 (key := 5126) rfl fun σ7 => ?_
    exact a_vret dX7_addSender_86
  refine a_aload_n dX7_addSender_61 rfl ?_
  refine a_getI fl_X7_51 lyC_80 rfl dX7_addSender_62 (key := 5126) rfl ?_
  refine a_goto dX7_addSender_65 rfl ?_
  refine a_iast lyC_76 rfl dX7_addSender_75 fun σ8 => ?_
  refine a_aload_n dX7_addSender_76 rfl ?_
  refine a_dup dX7_addSender_77 rfl ?_
  refine a_getI fl_X7_51 lyC_80 rfl dX7_addSender_78 (key := 5126) rfl ?_
  refine a_iconst dX7_addSender_81 ?_
  refine a_iadd dX7_addSender_82 ?_
  refine a_putI fl_X7_51 cf_X7 rfl rfl lyC_80 rfl dX7_addSender_83 (key := 5126) rfl fun σ9 => ?_
  exact a_vret dX7_addSender_86
def f_Reader_namedOne_senderName (F : Nat) (σ : St) (x2 : Int) : Option (Int × St) := bnd (f_Reader_isName F σ) fun r1 σ2 => gd (rng r1) (if r1 = 0 then bnd (f_Reader_blame F σ2 1) fun r7 σ8 => some ((-1), σ8) else bnd (f_Reader_placeOf_senderName F σ2 x2) fun r3 σ4 => gd (rng r3 ∧ rng (-1)) (if r3 = (-1) then bnd (f_Reader_blame F σ4 3) fun r5 σ6 => some (r3, σ6) else some (r3, σ4)))
set_option maxRecDepth 100000 in
set_option maxHeartbeats 4000000 in
theorem c_Reader_namedOne_senderName (F : Nat) (σ : St) (x2 : Int) : Ct 2 0 1 yX4_namedOne cX4_namedOne 4 (some .int) (LYC true false false) (LYC true false false) [.ref 3, .ref 4, vi x2] σ (f_Reader_namedOne_senderName F σ x2) := by
  unfold f_Reader_namedOne_senderName
  refine Ct_of (d := 2) (kp := 0) (kd := 1) (own := RX4) (nL := 4) (ret := (some .int)) (LY := (LYC true false false)) (LYe := (LYC true false false)) (L := [some (.ref 3), some (.ref 4), some (vi x2), none]) rfl (by decide +kernel) rfl rfl mf_X4_156.2.2.2.1 rfl fun K => ?_
  refine a_aload_n dX4_namedOne_0 rfl ?_
  refine a_callVi (as := []) mf_X4_183 lyC_3 rfl (c_Reader_isName F _) LYsame.rf dX4_namedOne_1 rfl rfl rfl rfl rfl rfl (Or.inl rfl) fun r1 σ2 => ?_
  refine a_if_ne dX4_namedOne_4 rfl (fun _ => ?_) (fun _ => ?_)
  · refine a_aload_n dX4_namedOne_15 rfl ?_
    refine a_aload_n dX4_namedOne_16 rfl ?_
    refine a_iload_n dX4_namedOne_17 rfl ?_
    refine a_callVi (as := [.ref 4, vi x2]) mf_X4_186 lyC_3 rfl (c_Reader_placeOf_senderName F _ _) LYsame.rf dX4_namedOne_18 rfl rfl rfl rfl rfl rfl (Or.inl rfl) fun r3 σ4 => ?_
    refine a_istore_n (L' := [some (.ref 3), some (.ref 4), some (vi x2), some (vi r3)]) dX4_namedOne_21 rfl rfl rfl rfl ?_
    refine a_iload_n dX4_namedOne_22 rfl ?_
    refine a_iconst dX4_namedOne_23 ?_
    refine a_icmp_ne dX4_namedOne_24 rfl (fun _ => ?_) (fun _ => ?_)
    · refine a_iload_n dX4_namedOne_33 rfl ?_
      exact a_iret dX4_namedOne_34
    refine a_aload_n dX4_namedOne_27 rfl ?_
    refine a_iconst dX4_namedOne_28 ?_
    refine a_callVi (as := [vi 3]) mf_X4_65 lyC_3 rfl (c_Reader_blame F _ _) LYsame.rf dX4_namedOne_29 rfl rfl rfl rfl rfl rfl (Or.inl rfl) fun r5 σ6 => ?_
    refine a_pop dX4_namedOne_32 rfl ?_
    refine a_iload_n dX4_namedOne_33 rfl ?_
    exact a_iret dX4_namedOne_34
  refine a_aload_n dX4_namedOne_7 rfl ?_
  refine a_iconst dX4_namedOne_8 ?_
  refine a_callVi (as := [vi 1]) mf_X4_65 lyC_3 rfl (c_Reader_blame F _ _) LYsame.rf dX4_namedOne_9 rfl rfl rfl rfl rfl rfl (Or.inl rfl) fun r7 σ8 => ?_
  refine a_pop dX4_namedOne_12 rfl ?_
  refine a_iconst dX4_namedOne_13 ?_
  exact a_iret dX4_namedOne_14
def f_Reader_readSenderTail_scene1 (F : Nat) (σ : St) (x2 x3 : Int) : Option (Int × St) := bnd (f_Reader_isWord F σ 110442557371507) fun r1 σ2 => gd (rng r1) (if r1 = 0 then bnd (f_Reader_isWord F σ2 1818848101) fun r3 σ4 => gd (rng r3) (if r3 = 0 then bnd (f_Scene_addSender_scene1 F σ4 x2 x3 0 (-1)) fun r5 σ6 => some (1, σ6) else bnd (f_Reader_advance F σ4) fun r7 σ8 => bnd (f_Reader_namedOne_senderName F σ8 (gF σ8 5126)) fun r9 σ10 => gd (rng r9 ∧ rng (-1)) (if r9 = (-1) then some (0, σ10) else bnd (f_Reader_advance F σ10) fun r11 σ12 => bnd (f_Scene_addSender_scene1 F σ12 x2 x3 0 r9) fun r13 σ14 => some (1, σ14))) else bnd (f_Reader_advance F σ2) fun r15 σ16 => bnd (f_Reader_isNumber F σ16 0 ((gF σ16 201) - 1)) fun r17 σ18 => gd (rng r17) (if r17 = 0 then some (0, σ18) else bv (gF σ18 200) fun x4_19 => bnd (f_Reader_advance F σ18) fun r20 σ21 => bnd (f_Reader_isWord F σ21 1818848101) fun r22 σ23 => gd (rng r22) (if r22 = 0 then bnd (f_Scene_addSender_scene1 F σ23 x2 x3 x4_19 (-1)) fun r24 σ25 => some (1, σ25) else bnd (f_Reader_advance F σ23) fun r26 σ27 => bnd (f_Reader_namedOne_senderName F σ27 (gF σ27 5126)) fun r28 σ29 => gd (rng r28 ∧ rng (-1)) (if r28 = (-1) then some (0, σ29) else bnd (f_Reader_advance F σ29) fun r30 σ31 => bnd (f_Scene_addSender_scene1 F σ31 x2 x3 x4_19 r28) fun r32 σ33 => some (1, σ33)))))
set_option maxRecDepth 100000 in
set_option maxHeartbeats 4000000 in
theorem c_Reader_readSenderTail_scene1 (F : Nat) (σ : St) (x2 x3 : Int) : Ct 3 0 1 yX4_readSenderTail cX4_readSenderTail 6 (some .boolean) (LYC true false false) (LYC true false false) [.ref 3, .ref 80, vi x2, vi x3] σ (f_Reader_readSenderTail_scene1 F σ x2 x3) := by
  unfold f_Reader_readSenderTail_scene1
  refine Ct_of (d := 3) (kp := 0) (kd := 1) (own := RX4) (nL := 6) (ret := (some .boolean)) (LY := (LYC true false false)) (LYe := (LYC true false false)) (L := [some (.ref 3), some (.ref 80), some (vi x2), some (vi x3), none, none]) rfl (by decide +kernel) rfl rfl mf_X4_148.2.2.2.1 rfl fun K => ?_
  refine a_iconst dX4_readSenderTail_0 ?_
  refine a_istore (L' := [some (.ref 3), some (.ref 80), some (vi x2), some (vi x3), some (vi 0), none]) dX4_readSenderTail_1 rfl rfl rfl rfl ?_
  refine a_iconst dX4_readSenderTail_3 ?_
  refine a_istore (L' := [some (.ref 3), some (.ref 80), some (vi x2), some (vi x3), some (vi 0), some (vi (-1))]) dX4_readSenderTail_4 rfl rfl rfl rfl ?_
  refine a_aload_n dX4_readSenderTail_6 rfl ?_
  refine a_ldc2 kc_X4_152 rfl dX4_readSenderTail_7 ?_
  refine a_callVi (as := [vl 110442557371507]) mf_X4_132 lyC_3 rfl (c_Reader_isWord F _ _) LYsame.rf dX4_readSenderTail_10 rfl rfl rfl rfl rfl rfl (Or.inl rfl) fun r1 σ2 => ?_
  refine a_if_eq dX4_readSenderTail_13 rfl (fun _ => ?_) (fun _ => ?_)
  · refine a_aload_n dX4_readSenderTail_46 rfl ?_
    refine a_ldc2 kc_X4_154 rfl dX4_readSenderTail_47 ?_
    refine a_callVi (as := [vl 1818848101]) mf_X4_132 lyC_3 rfl (c_Reader_isWord F _ _) LYsame.rf dX4_readSenderTail_50 rfl rfl rfl rfl rfl rfl (Or.inl rfl) fun r3 σ4 => ?_
    refine a_if_eq dX4_readSenderTail_53 rfl (fun _ => ?_) (fun _ => ?_)
    · refine a_aload_n dX4_readSenderTail_86 rfl ?_
      refine a_iload_n dX4_readSenderTail_87 rfl ?_
      refine a_iload_n dX4_readSenderTail_88 rfl ?_
      refine a_iload dX4_readSenderTail_89 rfl ?_
      refine a_iload dX4_readSenderTail_91 rfl ?_
      refine a_callVv (as := [vi x2, vi x3, vi 0, vi (-1)]) mf_X4_160 lyC_80 rfl (c_Scene_addSender_scene1 F _ _ _ _ _) LYsame.rf dX4_readSenderTail_93 rfl rfl rfl rfl rfl rfl (Or.inl rfl) fun r5 σ6 => ?_
      refine a_iconst dX4_readSenderTail_96 ?_
      exact a_zretc (by decide) dX4_readSenderTail_97
    refine a_aload_n dX4_readSenderTail_56 rfl ?_
    refine a_callVv (as := []) mf_X4_48 lyC_3 rfl (c_Reader_advance F _) LYsame.rf dX4_readSenderTail_57 rfl rfl rfl rfl rfl rfl (Or.inl rfl) fun r7 σ8 => ?_
    refine a_aload_n dX4_readSenderTail_60 rfl ?_
    refine a_aload_n dX4_readSenderTail_61 rfl ?_
    refine a_getR (c0 := 4) fl_X4_15 lyC_3 rfl dX4_readSenderTail_62 (key := 203) rfl ?_
    refine a_aload_n dX4_readSenderTail_65 rfl ?_
    refine a_getI fl_X4_104 lyC_80 rfl dX4_readSenderTail_66 (key := 5126) rfl ?_
    refine a_callVi (as := [.ref 4, vi (gF σ8 5126)]) mf_X4_156 lyC_3 rfl (c_Reader_namedOne_senderName F _ _) LYsame.rf dX4_readSenderTail_69 rfl rfl rfl rfl rfl rfl (Or.inl rfl) fun r9 σ10 => ?_
    refine a_istore (L' := [some (.ref 3), some (.ref 80), some (vi x2), some (vi x3), some (vi 0), some (vi r9)]) dX4_readSenderTail_72 rfl rfl rfl rfl ?_
    refine a_iload dX4_readSenderTail_74 rfl ?_
    refine a_iconst dX4_readSenderTail_76 ?_
    refine a_icmp_ne dX4_readSenderTail_77 rfl (fun _ => ?_) (fun _ => ?_)
    · refine a_aload_n dX4_readSenderTail_82 rfl ?_
      refine a_callVv (as := []) mf_X4_48 lyC_3 rfl (c_Reader_advance F _) LYsame.rf dX4_readSenderTail_83 rfl rfl rfl rfl rfl rfl (Or.inl rfl) fun r11 σ12 => ?_
      refine a_aload_n dX4_readSenderTail_86 rfl ?_
      refine a_iload_n dX4_readSenderTail_87 rfl ?_
      refine a_iload_n dX4_readSenderTail_88 rfl ?_
      refine a_iload dX4_readSenderTail_89 rfl ?_
      refine a_iload dX4_readSenderTail_91 rfl ?_
      refine a_callVv (as := [vi x2, vi x3, vi 0, vi r9]) mf_X4_160 lyC_80 rfl (c_Scene_addSender_scene1 F _ _ _ _ _) LYsame.rf dX4_readSenderTail_93 rfl rfl rfl rfl rfl rfl (Or.inl rfl) fun r13 σ14 => ?_
      refine a_iconst dX4_readSenderTail_96 ?_
      exact a_zretc (by decide) dX4_readSenderTail_97
    refine a_iconst dX4_readSenderTail_80 ?_
    exact a_zretc (by decide) dX4_readSenderTail_81
  refine a_aload_n dX4_readSenderTail_16 rfl ?_
  refine a_callVv (as := []) mf_X4_48 lyC_3 rfl (c_Reader_advance F _) LYsame.rf dX4_readSenderTail_17 rfl rfl rfl rfl rfl rfl (Or.inl rfl) fun r15 σ16 => ?_
  refine a_aload_n dX4_readSenderTail_20 rfl ?_
  refine a_iconst dX4_readSenderTail_21 ?_
  refine a_aload_n dX4_readSenderTail_22 rfl ?_
  refine a_getI fl_X4_38 lyC_3 rfl dX4_readSenderTail_23 (key := 201) rfl ?_
  refine a_iconst dX4_readSenderTail_26 ?_
  refine a_isub dX4_readSenderTail_27 ?_
  refine a_callVi (as := [vi 0, vi ((gF σ16 201) - 1)]) mf_X4_117 lyC_3 rfl (c_Reader_isNumber F _ _ _) LYsame.rf dX4_readSenderTail_28 rfl rfl rfl rfl rfl rfl (Or.inl rfl) fun r17 σ18 => ?_
  refine a_if_ne dX4_readSenderTail_31 rfl (fun _ => ?_) (fun _ => ?_)
  · refine a_aload_n dX4_readSenderTail_36 rfl ?_
    refine a_getI fl_X4_121 lyC_3 rfl dX4_readSenderTail_37 (key := 200) rfl ?_
    refine a_bv fun x4_19 ex4_19 => ?_
    refine a_istore (y := x4_19) (L' := [some (.ref 3), some (.ref 80), some (vi x2), some (vi x3), some (vi x4_19), some (vi (-1))]) dX4_readSenderTail_40 ex4_19 rfl rfl rfl ?_
    refine a_aload_n dX4_readSenderTail_42 rfl ?_
    refine a_callVv (as := []) mf_X4_48 lyC_3 rfl (c_Reader_advance F _) LYsame.rf dX4_readSenderTail_43 rfl rfl rfl rfl rfl rfl (Or.inl rfl) fun r20 σ21 => ?_
    refine a_aload_n dX4_readSenderTail_46 rfl ?_
    refine a_ldc2 kc_X4_154 rfl dX4_readSenderTail_47 ?_
    refine a_callVi (as := [vl 1818848101]) mf_X4_132 lyC_3 rfl (c_Reader_isWord F _ _) LYsame.rf dX4_readSenderTail_50 rfl rfl rfl rfl rfl rfl (Or.inl rfl) fun r22 σ23 => ?_
    refine a_if_eq dX4_readSenderTail_53 rfl (fun _ => ?_) (fun _ => ?_)
    · refine a_aload_n dX4_readSenderTail_86 rfl ?_
      refine a_iload_n dX4_readSenderTail_87 rfl ?_
      refine a_iload_n dX4_readSenderTail_88 rfl ?_
      refine a_iload dX4_readSenderTail_89 rfl ?_
      refine a_iload dX4_readSenderTail_91 rfl ?_
      refine a_callVv (as := [vi x2, vi x3, vi x4_19, vi (-1)]) mf_X4_160 lyC_80 rfl (c_Scene_addSender_scene1 F _ _ _ _ _) LYsame.rf dX4_readSenderTail_93 rfl rfl rfl rfl rfl rfl (Or.inl rfl) fun r24 σ25 => ?_
      refine a_iconst dX4_readSenderTail_96 ?_
      exact a_zretc (by decide) dX4_readSenderTail_97
    refine a_aload_n dX4_readSenderTail_56 rfl ?_
    refine a_callVv (as := []) mf_X4_48 lyC_3 rfl (c_Reader_advance F _) LYsame.rf dX4_readSenderTail_57 rfl rfl rfl rfl rfl rfl (Or.inl rfl) fun r26 σ27 => ?_
    refine a_aload_n dX4_readSenderTail_60 rfl ?_
    refine a_aload_n dX4_readSenderTail_61 rfl ?_
    refine a_getR (c0 := 4) fl_X4_15 lyC_3 rfl dX4_readSenderTail_62 (key := 203) rfl ?_
    refine a_aload_n dX4_readSenderTail_65 rfl ?_
    refine a_getI fl_X4_104 lyC_80 rfl dX4_readSenderTail_66 (key := 5126) rfl ?_
    refine a_callVi (as := [.ref 4, vi (gF σ27 5126)]) mf_X4_156 lyC_3 rfl (c_Reader_namedOne_senderName F _ _) LYsame.rf dX4_readSenderTail_69 rfl rfl rfl rfl rfl rfl (Or.inl rfl) fun r28 σ29 => ?_
    refine a_istore (L' := [some (.ref 3), some (.ref 80), some (vi x2), some (vi x3), some (vi x4_19), some (vi r28)]) dX4_readSenderTail_72 rfl rfl rfl rfl ?_
    refine a_iload dX4_readSenderTail_74 rfl ?_
    refine a_iconst dX4_readSenderTail_76 ?_
    refine a_icmp_ne dX4_readSenderTail_77 rfl (fun _ => ?_) (fun _ => ?_)
    · refine a_aload_n dX4_readSenderTail_82 rfl ?_
      refine a_callVv (as := []) mf_X4_48 lyC_3 rfl (c_Reader_advance F _) LYsame.rf dX4_readSenderTail_83 rfl rfl rfl rfl rfl rfl (Or.inl rfl) fun r30 σ31 => ?_
      refine a_aload_n dX4_readSenderTail_86 rfl ?_
      refine a_iload_n dX4_readSenderTail_87 rfl ?_
      refine a_iload_n dX4_readSenderTail_88 rfl ?_
      refine a_iload dX4_readSenderTail_89 rfl ?_
      refine a_iload dX4_readSenderTail_91 rfl ?_
      refine a_callVv (as := [vi x2, vi x3, vi x4_19, vi r28]) mf_X4_160 lyC_80 rfl (c_Scene_addSender_scene1 F _ _ _ _ _) LYsame.rf dX4_readSenderTail_93 rfl rfl rfl rfl rfl rfl (Or.inl rfl) fun r32 σ33 => ?_
      refine a_iconst dX4_readSenderTail_96 ?_
      exact a_zretc (by decide) dX4_readSenderTail_97
    refine a_iconst dX4_readSenderTail_80 ?_
    exact a_zretc (by decide) dX4_readSenderTail_81
  refine a_iconst dX4_readSenderTail_34 ?_
  exact a_zretc (by decide) dX4_readSenderTail_35
def f_Reader_readSender_scene1 (F : Nat) (σ : St) : Option (Int × St) := gd (rng (gF σ 5126) ∧ rng 6) (if (gF σ 5126) < 6 then bnd (f_Reader_advance F σ) fun r1 σ2 => bnd (f_Reader_isNewName F σ2 (gF σ2 5126) (gF σ2 2048)) fun r3 σ4 => gd (rng r3) (if r3 = 0 then some (0, σ4) else gd (inb (gF σ4 5126) 6) (bs (sA σ4 4 (Int.toNat (gF σ4 5126)) (gF σ4 199)) fun σ5 => bnd (f_Reader_advance F σ5) fun r6 σ7 => bnd (f_Reader_isNumber F σ7 0 ((gF σ7 201) - 1)) fun r8 σ9 => gd (rng r8) (if r8 = 0 then some (0, σ9) else bv (gF σ9 200) fun x2_10 => bnd (f_Reader_advance F σ9) fun r11 σ12 => bnd (f_Reader_isNumber F σ12 1 999) fun r13 σ14 => gd (rng r13) (if r13 = 0 then some (0, σ14) else bv (gF σ14 200) fun x3_15 => bnd (f_Reader_advance F σ14) fun r16 σ17 => bnd (f_Reader_readSenderTail_scene1 F σ17 x2_10 x3_15) fun r18 σ19 => gd (isb r18) (some (r18, σ19)))))) else bnd (f_Reader_blame F σ 4) fun r20 σ21 => gd (isb r20) (some (r20, σ21)))
set_option maxRecDepth 100000 in
set_option maxHeartbeats 4000000 in
theorem c_Reader_readSender_scene1 (F : Nat) (σ : St) : Ct 4 0 1 yX4_readSender cX4_readSender 4 (some .boolean) (LYC true false false) (LYC true false false) [.ref 3, .ref 80] σ (f_Reader_readSender_scene1 F σ) := by
  unfold f_Reader_readSender_scene1
  refine Ct_of (d := 4) (kp := 0) (kd := 1) (own := RX4) (nL := 4) (ret := (some .boolean)) (LY := (LYC true false false)) (LYe := (LYC true false false)) (L := [some (.ref 3), some (.ref 80), none, none]) rfl (by decide +kernel) rfl rfl mf_X4_95.2.2.2.1 rfl fun K => ?_
  refine a_aload_n dX4_readSender_0 rfl ?_
  refine a_getI fl_X4_104 lyC_80 rfl dX4_readSender_1 (key := 5126) rfl ?_
  refine a_bipush dX4_readSender_4 bi_6 ?_
  refine a_icmp_lt dX4_readSender_6 rfl (fun _ => ?_) (fun _ => ?_)
  · refine a_aload_n dX4_readSender_15 rfl ?_
    refine a_callVv (as := []) mf_X4_48 lyC_3 rfl (c_Reader_advance F _) LYsame.rf dX4_readSender_16 rfl rfl rfl rfl rfl rfl (Or.inl rfl) fun r1 σ2 => ?_
    refine a_aload_n dX4_readSender_19 rfl ?_
    refine a_aload_n dX4_readSender_20 rfl ?_
    refine a_getI fl_X4_104 lyC_80 rfl dX4_readSender_21 (key := 5126) rfl ?_
    refine a_aload_n dX4_readSender_24 rfl ?_
    refine a_getR (c0 := 32) fl_X4_100 lyC_80 rfl dX4_readSender_25 (key := 5121) rfl ?_
    refine a_getI fl_X4_140 lyC_32 rfl dX4_readSender_28 (key := 2048) rfl ?_
    refine a_callVi (as := [vi (gF σ2 5126), vi (gF σ2 2048)]) mf_X4_145 lyC_3 rfl (c_Reader_isNewName F _ _ _) LYsame.rf dX4_readSender_31 rfl rfl rfl rfl rfl rfl (Or.inl rfl) fun r3 σ4 => ?_
    refine a_if_ne dX4_readSender_34 rfl (fun _ => ?_) (fun _ => ?_)
    · refine a_aload_n dX4_readSender_39 rfl ?_
      refine a_getR (c0 := 4) fl_X4_15 lyC_3 rfl dX4_readSender_40 (key := 203) rfl ?_
      refine a_aload_n dX4_readSender_43 rfl ?_
      refine a_getI fl_X4_104 lyC_80 rfl dX4_readSender_44 (key := 5126) rfl ?_
      refine a_aload_n dX4_readSender_47 rfl ?_
      refine a_getL fl_X4_79 lyC_3 rfl dX4_readSender_48 (key := 199) rfl ?_
      refine a_last lyC_4 rfl dX4_readSender_51 fun σ5 => ?_
      refine a_aload_n dX4_readSender_52 rfl ?_
      refine a_callVv (as := []) mf_X4_48 lyC_3 rfl (c_Reader_advance F _) LYsame.rf dX4_readSender_53 rfl rfl rfl rfl rfl rfl (Or.inl rfl) fun r6 σ7 => ?_
      refine a_aload_n dX4_readSender_56 rfl ?_
      refine a_iconst dX4_readSender_57 ?_
      refine a_aload_n dX4_readSender_58 rfl ?_
      refine a_getI fl_X4_38 lyC_3 rfl dX4_readSender_59 (key := 201) rfl ?_
      refine a_iconst dX4_readSender_62 ?_
      refine a_isub dX4_readSender_63 ?_
      refine a_callVi (as := [vi 0, vi ((gF σ7 201) - 1)]) mf_X4_117 lyC_3 rfl (c_Reader_isNumber F _ _ _) LYsame.rf dX4_readSender_64 rfl rfl rfl rfl rfl rfl (Or.inl rfl) fun r8 σ9 => ?_
      refine a_if_ne dX4_readSender_67 rfl (fun _ => ?_) (fun _ => ?_)
      · refine a_aload_n dX4_readSender_72 rfl ?_
        refine a_getI fl_X4_121 lyC_3 rfl dX4_readSender_73 (key := 200) rfl ?_
        refine a_bv fun x2_10 ex2_10 => ?_
        refine a_istore_n (y := x2_10) (L' := [some (.ref 3), some (.ref 80), some (vi x2_10), none]) dX4_readSender_76 ex2_10 rfl rfl rfl ?_
        refine a_aload_n dX4_readSender_77 rfl ?_
        refine a_callVv (as := []) mf_X4_48 lyC_3 rfl (c_Reader_advance F _) LYsame.rf dX4_readSender_78 rfl rfl rfl rfl rfl rfl (Or.inl rfl) fun r11 σ12 => ?_
        refine a_aload_n dX4_readSender_81 rfl ?_
        refine a_iconst dX4_readSender_82 ?_
        refine a_sipush dX4_readSender_83 si_999 ?_
        refine a_callVi (as := [vi 1, vi 999]) mf_X4_117 lyC_3 rfl (c_Reader_isNumber F _ _ _) LYsame.rf dX4_readSender_86 rfl rfl rfl rfl rfl rfl (Or.inl rfl) fun r13 σ14 => ?_
        refine a_if_ne dX4_readSender_89 rfl (fun _ => ?_) (fun _ => ?_)
        · refine a_aload_n dX4_readSender_94 rfl ?_
          refine a_getI fl_X4_121 lyC_3 rfl dX4_readSender_95 (key := 200) rfl ?_
          refine a_bv fun x3_15 ex3_15 => ?_
          refine a_istore_n (y := x3_15) (L' := [some (.ref 3), some (.ref 80), some (vi x2_10), some (vi x3_15)]) dX4_readSender_98 ex3_15 rfl rfl rfl ?_
          refine a_aload_n dX4_readSender_99 rfl ?_
          refine a_callVv (as := []) mf_X4_48 lyC_3 rfl (c_Reader_advance F _) LYsame.rf dX4_readSender_100 rfl rfl rfl rfl rfl rfl (Or.inl rfl) fun r16 σ17 => ?_
          refine a_aload_n dX4_readSender_103 rfl ?_
          refine a_aload_n dX4_readSender_104 rfl ?_
          refine a_iload_n dX4_readSender_105 rfl ?_
          refine a_iload_n dX4_readSender_106 rfl ?_
          refine a_callVi (as := [.ref 80, vi x2_10, vi x3_15]) mf_X4_148 lyC_3 rfl (c_Reader_readSenderTail_scene1 F _ _ _) LYsame.rf dX4_readSender_107 rfl rfl rfl rfl rfl rfl (Or.inl rfl) fun r18 σ19 => ?_
          exact a_zret dX4_readSender_110
        refine a_iconst dX4_readSender_92 ?_
        exact a_zretc (by decide) dX4_readSender_93
      refine a_iconst dX4_readSender_70 ?_
      exact a_zretc (by decide) dX4_readSender_71
    refine a_iconst dX4_readSender_37 ?_
    exact a_zretc (by decide) dX4_readSender_38
  refine a_aload_n dX4_readSender_9 rfl ?_
  refine a_iconst dX4_readSender_10 ?_
  refine a_callVi (as := [vi 4]) mf_X4_65 lyC_3 rfl (c_Reader_blame F _ _) LYsame.rf dX4_readSender_11 rfl rfl rfl rfl rfl rfl (Or.inl rfl) fun r20 σ21 => ?_
  exact a_zret dX4_readSender_14
def b_Scene_hasPlace_scene1_2 (F : Nat) (self : St → Int → Int → Option (Int × St)) (σ : St) (x1 x2 : Int) : Option (Int × St) := gd (rng x2 ∧ rng (gF σ 5123)) (if (gF σ 5123) ≤ x2 then some (0, σ) else gd (inb x2 10) (gd (rng (gA σ 56 (Int.toNat x2)) ∧ rng x1) (if (gA σ 56 (Int.toNat x2)) = x1 then some (1, σ) else bv (x2 + 1) fun x2_1 => self σ x1 x2_1)))
def l_Scene_hasPlace_scene1_2 (F : Nat) : Nat → St → Int → Int → Option (Int × St)
  | 0 => fun _ _ _ => none
  | n + 1 => fun σ x1 x2 => b_Scene_hasPlace_scene1_2 F (l_Scene_hasPlace_scene1_2 F n) σ x1 x2
def f_Scene_hasPlace_scene1 (F : Nat) (σ : St) (x1 : Int) : Option (Int × St) := l_Scene_hasPlace_scene1_2 F F σ x1 0
set_option maxRecDepth 100000 in
set_option maxHeartbeats 4000000 in
theorem cb_Scene_hasPlace_scene1_2 {K : KX} {x : Bool} (F : Nat) (self : St → Int → Int → Option (Int × St)) (hself : ∀ σ x1 x2, WA 1 0 1 cX7_hasPlace RX7 3 (some .boolean) (LYC x false false) (LYC x false false) K 2 [some (.ref 80), some (vi x1), some (vi x2)] [] σ (self σ x1 x2)) (σ : St) (x1 x2 : Int) : WA 1 0 1 cX7_hasPlace RX7 3 (some .boolean) (LYC x false false) (LYC x false false) K 2 [some (.ref 80), some (vi x1), some (vi x2)] [] σ (b_Scene_hasPlace_scene1_2 F self σ x1 x2) := by
  unfold b_Scene_hasPlace_scene1_2
  refine a_iload_n dX7_hasPlace_2 rfl ?_
  refine a_aload_n dX7_hasPlace_3 rfl ?_
  refine a_getI fl_X7_48 lyC_80 rfl dX7_hasPlace_4 (key := 5123) rfl ?_
  refine a_icmp_ge dX7_hasPlace_7 rfl (fun _ => ?_) (fun _ => ?_)
  · refine a_iconst dX7_hasPlace_28 ?_
    exact a_zretc (by decide) dX7_hasPlace_29
  refine a_aload_n dX7_hasPlace_10 rfl ?_
  refine a_getR (c0 := 56) fl_X7_25 lyC_80 rfl dX7_hasPlace_11 (key := 5124) rfl ?_
  refine a_iload_n dX7_hasPlace_14 rfl ?_
  refine a_iald lyC_56 rfl dX7_hasPlace_15 ?_
  refine a_iload_n dX7_hasPlace_16 rfl ?_
  refine a_icmp_ne dX7_hasPlace_17 rfl (fun _ => ?_) (fun _ => ?_)
  · refine a_bv fun x2_1 ex2_1 => ?_
    refine a_iinc (y := x2_1) (L' := [some (.ref 80), some (vi x1), some (vi x2_1)]) dX7_hasPlace_22 rfl ex2_1 rfl rfl rfl ?_
    refine a_goto dX7_hasPlace_25 rfl ?_
    exact hself _ _ _
  refine a_iconst dX7_hasPlace_20 ?_
  exact a_zretc (by decide) dX7_hasPlace_21
set_option maxRecDepth 100000 in
set_option maxHeartbeats 4000000 in
theorem cl_Scene_hasPlace_scene1_2 {K : KX} {x : Bool} (F : Nat) : ∀ (n : Nat) (σ : St) (x1 x2 : Int), WA 1 0 1 cX7_hasPlace RX7 3 (some .boolean) (LYC x false false) (LYC x false false) K 2 [some (.ref 80), some (vi x1), some (vi x2)] [] σ (l_Scene_hasPlace_scene1_2 F n σ x1 x2)
  | 0, _, _, _ => a_none
  | n + 1, σ, x1, x2 => cb_Scene_hasPlace_scene1_2 F _ (cl_Scene_hasPlace_scene1_2 F n) σ x1 x2
set_option maxRecDepth 100000 in
set_option maxHeartbeats 4000000 in
theorem c_Scene_hasPlace_scene1 {x : Bool} (F : Nat) (σ : St) (x1 : Int) : Ct 1 0 1 yX7_hasPlace cX7_hasPlace 3 (some .boolean) (LYC x false false) (LYC x false false) [.ref 80, vi x1] σ (f_Scene_hasPlace_scene1 F σ x1) := by
  unfold f_Scene_hasPlace_scene1
  refine Ct_of (d := 1) (kp := 0) (kd := 1) (own := RX7) (nL := 3) (ret := (some .boolean)) (LY := (LYC x false false)) (LYe := (LYC x false false)) (L := [some (.ref 80), some (vi x1), none]) rfl (by decide +kernel) rfl rfl mf_X4_127.2.2.2.1 rfl fun K => ?_
  refine a_iconst dX7_hasPlace_0 ?_
  refine a_istore_n (L' := [some (.ref 80), some (vi x1), some (vi 0)]) dX7_hasPlace_1 rfl rfl rfl rfl ?_
  exact cl_Scene_hasPlace_scene1_2 F F _ _ _
def f_Scene_addHearer_scene1 (F : Nat) (σ : St) (x1 x2 : Int) : Option (Int × St) := gd (rng (gF σ 5123) ∧ rng 10) (if (10 : Int) ≤ (gF σ 5123) then some (0, σ) else gd (inb (gF σ 5123) 10) (bs (sA σ 56 (Int.toNat (gF σ 5123)) x1) fun σ1 => gd (inb (gF σ1 5123) 10) (bs (sA σ1 60 (Int.toNat (gF σ1 5123)) x2) fun σ2 => bs (sF σ2 5123 ((gF σ2 5123) + 1)) fun σ3 => some (0, σ3))))
set_option maxRecDepth 100000 in
set_option maxHeartbeats 4000000 in
theorem c_Scene_addHearer_scene1 {x : Bool} (F : Nat) (σ : St) (x1 x2 : Int) : Ct 1 0 0 yX7_addHearer cX7_addHearer 3 none (LYC x false false) (LYC x false false) [.ref 80, vi x1, vi x2] σ (f_Scene_addHearer_scene1 F σ x1 x2) := by
  unfold f_Scene_addHearer_scene1
  refine Ct_of (d := 1) (kp := 0) (kd := 0) (own := RX7) (nL := 3) (ret := none) (LY := (LYC x false false)) (LYe := (LYC x false false)) (L := [some (.ref 80), some (vi x1), some (vi x2)]) rfl (by decide +kernel) rfl rfl mf_X4_136.2.2.2.1 rfl fun K => ?_
  refine a_aload_n dX7_addHearer_0 rfl ?_
  refine a_getI fl_X7_48 lyC_80 rfl dX7_addHearer_1 (key := 5123) rfl ?_
  refine a_bipush dX7_addHearer_4 bi_10 ?_
  refine a_icmp_ge dX7_addHearer_6 rfl (fun _ => ?_) (fun _ => ?_)
  · exact a_vret dX7_addHearer_39
  refine a_aload_n dX7_addHearer_9 rfl ?_
  refine a_getR (c0 := 56) fl_X7_25 lyC_80 rfl dX7_addHearer_10 (key := 5124) rfl ?_
  refine a_aload_n dX7_addHearer_13 rfl ?_
  refine a_getI fl_X7_48 lyC_80 rfl dX7_addHearer_14 (key := 5123) rfl ?_
  refine a_iload_n dX7_addHearer_17 rfl ?_
  refine a_iast lyC_56 rfl dX7_addHearer_18 fun σ1 => ?_
  refine a_aload_n dX7_addHearer_19 rfl ?_
  refine a_getR (c0 := 60) fl_X7_29 lyC_80 rfl dX7_addHearer_20 (key := 5125) rfl ?_
  refine a_aload_n dX7_addHearer_23 rfl ?_
  refine a_getI fl_X7_48 lyC_80 rfl dX7_addHearer_24 (key := 5123) rfl ?_
  refine a_iload_n dX7_addHearer_27 rfl ?_
  refine a_iast lyC_60 rfl dX7_addHearer_28 fun σ2 => ?_
  refine a_aload_n dX7_addHearer_29 rfl ?_
  refine a_dup dX7_addHearer_30 rfl ?_
  refine a_getI fl_X7_48 lyC_80 rfl dX7_addHearer_31 (key := 5123) rfl ?_
  refine a_iconst dX7_addHearer_34 ?_
  refine a_iadd dX7_addHearer_35 ?_
  refine a_putI fl_X7_48 cf_X7 rfl rfl lyC_80 rfl dX7_addHearer_36 (key := 5123) rfl fun σ3 => ?_
  exact a_vret dX7_addHearer_39
def f_Reader_readHearer_scene1 (F : Nat) (σ : St) : Option (Int × St) := gd (rng (gF σ 5123) ∧ rng 10) (if (gF σ 5123) < 10 then bnd (f_Reader_advance F σ) fun r1 σ2 => bnd (f_Reader_isNumber F σ2 0 99) fun r3 σ4 => gd (rng r3) (if r3 = 0 then some (0, σ4) else bnd (f_Scene_hasPlace_scene1 F σ4 (gF σ4 200)) fun r5 σ6 => gd (rng r5) (if r5 = 0 then bv (gF σ6 200) fun x2_7 => bnd (f_Reader_advance F σ6) fun r8 σ9 => bnd (f_Reader_isWord F σ9 1734437230) fun r10 σ11 => gd (rng r10) (if r10 = 0 then bnd (f_Scene_addHearer_scene1 F σ11 x2_7 1) fun r12 σ13 => some (1, σ13) else bnd (f_Reader_advance F σ11) fun r14 σ15 => bnd (f_Reader_isNumber F σ15 1 999) fun r16 σ17 => gd (rng r16) (if r16 = 0 then some (0, σ17) else bv (gF σ17 200) fun x3_18 => bnd (f_Reader_advance F σ17) fun r19 σ20 => bnd (f_Scene_addHearer_scene1 F σ20 x2_7 x3_18) fun r21 σ22 => some (1, σ22))) else bnd (f_Reader_blame F σ6 3) fun r23 σ24 => gd (isb r23) (some (r23, σ24)))) else bnd (f_Reader_blame F σ 4) fun r25 σ26 => gd (isb r25) (some (r25, σ26)))
set_option maxRecDepth 100000 in
set_option maxHeartbeats 4000000 in
theorem c_Reader_readHearer_scene1 (F : Nat) (σ : St) : Ct 3 0 1 yX4_readHearer cX4_readHearer 4 (some .boolean) (LYC true false false) (LYC true false false) [.ref 3, .ref 80] σ (f_Reader_readHearer_scene1 F σ) := by
  unfold f_Reader_readHearer_scene1
  refine Ct_of (d := 3) (kp := 0) (kd := 1) (own := RX4) (nL := 4) (ret := (some .boolean)) (LY := (LYC true false false)) (LYe := (LYC true false false)) (L := [some (.ref 3), some (.ref 80), none, none]) rfl (by decide +kernel) rfl rfl mf_X4_90.2.2.2.1 rfl fun K => ?_
  refine a_aload_n dX4_readHearer_0 rfl ?_
  refine a_getI fl_X4_124 lyC_80 rfl dX4_readHearer_1 (key := 5123) rfl ?_
  refine a_bipush dX4_readHearer_4 bi_10 ?_
  refine a_icmp_lt dX4_readHearer_6 rfl (fun _ => ?_) (fun _ => ?_)
  · refine a_aload_n dX4_readHearer_15 rfl ?_
    refine a_callVv (as := []) mf_X4_48 lyC_3 rfl (c_Reader_advance F _) LYsame.rf dX4_readHearer_16 rfl rfl rfl rfl rfl rfl (Or.inl rfl) fun r1 σ2 => ?_
    refine a_aload_n dX4_readHearer_19 rfl ?_
    refine a_iconst dX4_readHearer_20 ?_
    refine a_bipush dX4_readHearer_21 bi_99 ?_
    refine a_callVi (as := [vi 0, vi 99]) mf_X4_117 lyC_3 rfl (c_Reader_isNumber F _ _ _) LYsame.rf dX4_readHearer_23 rfl rfl rfl rfl rfl rfl (Or.inl rfl) fun r3 σ4 => ?_
    refine a_if_ne dX4_readHearer_26 rfl (fun _ => ?_) (fun _ => ?_)
    · refine a_aload_n dX4_readHearer_31 rfl ?_
      refine a_aload_n dX4_readHearer_32 rfl ?_
      refine a_getI fl_X4_121 lyC_3 rfl dX4_readHearer_33 (key := 200) rfl ?_
      refine a_callVi (as := [vi (gF σ4 200)]) mf_X4_127 lyC_80 rfl (c_Scene_hasPlace_scene1 F _ _) LYsame.rf dX4_readHearer_36 rfl rfl rfl rfl rfl rfl (Or.inl rfl) fun r5 σ6 => ?_
      refine a_if_eq dX4_readHearer_39 rfl (fun _ => ?_) (fun _ => ?_)
      · refine a_aload_n dX4_readHearer_48 rfl ?_
        refine a_getI fl_X4_121 lyC_3 rfl dX4_readHearer_49 (key := 200) rfl ?_
        refine a_bv fun x2_7 ex2_7 => ?_
        refine a_istore_n (y := x2_7) (L' := [some (.ref 3), some (.ref 80), some (vi x2_7), none]) dX4_readHearer_52 ex2_7 rfl rfl rfl ?_
        refine a_iconst dX4_readHearer_53 ?_
        refine a_istore_n (L' := [some (.ref 3), some (.ref 80), some (vi x2_7), some (vi 1)]) dX4_readHearer_54 rfl rfl rfl rfl ?_
        refine a_aload_n dX4_readHearer_55 rfl ?_
        refine a_callVv (as := []) mf_X4_48 lyC_3 rfl (c_Reader_advance F _) LYsame.rf dX4_readHearer_56 rfl rfl rfl rfl rfl rfl (Or.inl rfl) fun r8 σ9 => ?_
        refine a_aload_n dX4_readHearer_59 rfl ?_
        refine a_ldc2 kc_X4_130 rfl dX4_readHearer_60 ?_
        refine a_callVi (as := [vl 1734437230]) mf_X4_132 lyC_3 rfl (c_Reader_isWord F _ _) LYsame.rf dX4_readHearer_63 rfl rfl rfl rfl rfl rfl (Or.inl rfl) fun r10 σ11 => ?_
        refine a_if_eq dX4_readHearer_66 rfl (fun _ => ?_) (fun _ => ?_)
        · refine a_aload_n dX4_readHearer_95 rfl ?_
          refine a_iload_n dX4_readHearer_96 rfl ?_
          refine a_iload_n dX4_readHearer_97 rfl ?_
          refine a_callVv (as := [vi x2_7, vi 1]) mf_X4_136 lyC_80 rfl (c_Scene_addHearer_scene1 F _ _ _) LYsame.rf dX4_readHearer_98 rfl rfl rfl rfl rfl rfl (Or.inl rfl) fun r12 σ13 => ?_
          refine a_iconst dX4_readHearer_101 ?_
          exact a_zretc (by decide) dX4_readHearer_102
        refine a_aload_n dX4_readHearer_69 rfl ?_
        refine a_callVv (as := []) mf_X4_48 lyC_3 rfl (c_Reader_advance F _) LYsame.rf dX4_readHearer_70 rfl rfl rfl rfl rfl rfl (Or.inl rfl) fun r14 σ15 => ?_
        refine a_aload_n dX4_readHearer_73 rfl ?_
        refine a_iconst dX4_readHearer_74 ?_
        refine a_sipush dX4_readHearer_75 si_999 ?_
        refine a_callVi (as := [vi 1, vi 999]) mf_X4_117 lyC_3 rfl (c_Reader_isNumber F _ _ _) LYsame.rf dX4_readHearer_78 rfl rfl rfl rfl rfl rfl (Or.inl rfl) fun r16 σ17 => ?_
        refine a_if_ne dX4_readHearer_81 rfl (fun _ => ?_) (fun _ => ?_)
        · refine a_aload_n dX4_readHearer_86 rfl ?_
          refine a_getI fl_X4_121 lyC_3 rfl dX4_readHearer_87 (key := 200) rfl ?_
          refine a_bv fun x3_18 ex3_18 => ?_
          refine a_istore_n (y := x3_18) (L' := [some (.ref 3), some (.ref 80), some (vi x2_7), some (vi x3_18)]) dX4_readHearer_90 ex3_18 rfl rfl rfl ?_
          refine a_aload_n dX4_readHearer_91 rfl ?_
          refine a_callVv (as := []) mf_X4_48 lyC_3 rfl (c_Reader_advance F _) LYsame.rf dX4_readHearer_92 rfl rfl rfl rfl rfl rfl (Or.inl rfl) fun r19 σ20 => ?_
          refine a_aload_n dX4_readHearer_95 rfl ?_
          refine a_iload_n dX4_readHearer_96 rfl ?_
          refine a_iload_n dX4_readHearer_97 rfl ?_
          refine a_callVv (as := [vi x2_7, vi x3_18]) mf_X4_136 lyC_80 rfl (c_Scene_addHearer_scene1 F _ _ _) LYsame.rf dX4_readHearer_98 rfl rfl rfl rfl rfl rfl (Or.inl rfl) fun r21 σ22 => ?_
          refine a_iconst dX4_readHearer_101 ?_
          exact a_zretc (by decide) dX4_readHearer_102
        refine a_iconst dX4_readHearer_84 ?_
        exact a_zretc (by decide) dX4_readHearer_85
      refine a_aload_n dX4_readHearer_42 rfl ?_
      refine a_iconst dX4_readHearer_43 ?_
      refine a_callVi (as := [vi 3]) mf_X4_65 lyC_3 rfl (c_Reader_blame F _ _) LYsame.rf dX4_readHearer_44 rfl rfl rfl rfl rfl rfl (Or.inl rfl) fun r23 σ24 => ?_
      exact a_zret dX4_readHearer_47
    refine a_iconst dX4_readHearer_29 ?_
    exact a_zretc (by decide) dX4_readHearer_30
  refine a_aload_n dX4_readHearer_9 rfl ?_
  refine a_iconst dX4_readHearer_10 ?_
  refine a_callVi (as := [vi 4]) mf_X4_65 lyC_3 rfl (c_Reader_blame F _ _) LYsame.rf dX4_readHearer_11 rfl rfl rfl rfl rfl rfl (Or.inl rfl) fun r25 σ26 => ?_
  exact a_zret dX4_readHearer_14
def f_Reader_readLattice_scene1 (F : Nat) (σ : St) : Option (Int × St) := gd (rng (gF σ 202)) (if (gF σ 202) = 0 then gd (rng (gF σ 5126)) (if (gF σ 5126) ≤ 0 then bnd (f_Reader_advance F σ) fun r3 σ4 => bnd (f_Reader_isNumber F σ4 2 60) fun r5 σ6 => gd (rng r5) (if r5 = 0 then some (0, σ6) else bs (sF σ6 201 (gF σ6 200)) fun σ7 => gd (isb 1) (bs (sF σ7 202 1) fun σ8 => bnd (f_Reader_advance F σ8) fun r9 σ10 => some (1, σ10))) else bnd (f_Reader_blame F σ 3) fun r11 σ12 => gd (isb r11) (some (r11, σ12))) else bnd (f_Reader_blame F σ 3) fun r1 σ2 => gd (isb r1) (some (r1, σ2)))
set_option maxRecDepth 100000 in
set_option maxHeartbeats 4000000 in
theorem c_Reader_readLattice_scene1 (F : Nat) (σ : St) : Ct 3 0 1 yX4_readLattice cX4_readLattice 2 (some .boolean) (LYC true false false) (LYC true false false) [.ref 3, .ref 80] σ (f_Reader_readLattice_scene1 F σ) := by
  unfold f_Reader_readLattice_scene1
  refine Ct_of (d := 3) (kp := 0) (kd := 1) (own := RX4) (nL := 2) (ret := (some .boolean)) (LY := (LYC true false false)) (LYe := (LYC true false false)) (L := [some (.ref 3), some (.ref 80)]) rfl (by decide +kernel) rfl rfl mf_X4_85.2.2.2.1 rfl fun K => ?_
  refine a_aload_n dX4_readLattice_0 rfl ?_
  refine a_getI fl_X4_41 lyC_3 rfl dX4_readLattice_1 (key := 202) rfl ?_
  refine a_if_ne dX4_readLattice_4 rfl (fun _ => ?_) (fun _ => ?_)
  · refine a_aload_n dX4_readLattice_14 rfl ?_
    refine a_iconst dX4_readLattice_15 ?_
    refine a_callVi (as := [vi 3]) mf_X4_65 lyC_3 rfl (c_Reader_blame F _ _) LYsame.rf dX4_readLattice_16 rfl rfl rfl rfl rfl rfl (Or.inl rfl) fun r1 σ2 => ?_
    exact a_zret dX4_readLattice_19
  refine a_aload_n dX4_readLattice_7 rfl ?_
  refine a_getI fl_X4_104 lyC_80 rfl dX4_readLattice_8 (key := 5126) rfl ?_
  refine a_if_le dX4_readLattice_11 rfl (fun _ => ?_) (fun _ => ?_)
  · refine a_aload_n dX4_readLattice_20 rfl ?_
    refine a_callVv (as := []) mf_X4_48 lyC_3 rfl (c_Reader_advance F _) LYsame.rf dX4_readLattice_21 rfl rfl rfl rfl rfl rfl (Or.inl rfl) fun r3 σ4 => ?_
    refine a_aload_n dX4_readLattice_24 rfl ?_
    refine a_iconst dX4_readLattice_25 ?_
    refine a_bipush dX4_readLattice_26 bi_60 ?_
    refine a_callVi (as := [vi 2, vi 60]) mf_X4_117 lyC_3 rfl (c_Reader_isNumber F _ _ _) LYsame.rf dX4_readLattice_28 rfl rfl rfl rfl rfl rfl (Or.inl rfl) fun r5 σ6 => ?_
    refine a_if_ne dX4_readLattice_31 rfl (fun _ => ?_) (fun _ => ?_)
    · refine a_aload_n dX4_readLattice_36 rfl ?_
      refine a_aload_n dX4_readLattice_37 rfl ?_
      refine a_getI fl_X4_121 lyC_3 rfl dX4_readLattice_38 (key := 200) rfl ?_
      refine a_putI fl_X4_38 cf_X4 rfl rfl lyC_3 rfl dX4_readLattice_41 (key := 201) rfl fun σ7 => ?_
      refine a_aload_n dX4_readLattice_44 rfl ?_
      refine a_iconst dX4_readLattice_45 ?_
      refine a_putZ fl_X4_41 cf_X4 rfl rfl lyC_3 rfl dX4_readLattice_46 (key := 202) rfl fun σ8 => ?_
      refine a_aload_n dX4_readLattice_49 rfl ?_
      refine a_callVv (as := []) mf_X4_48 lyC_3 rfl (c_Reader_advance F _) LYsame.rf dX4_readLattice_50 rfl rfl rfl rfl rfl rfl (Or.inl rfl) fun r9 σ10 => ?_
      refine a_iconst dX4_readLattice_53 ?_
      exact a_zretc (by decide) dX4_readLattice_54
    refine a_iconst dX4_readLattice_34 ?_
    exact a_zretc (by decide) dX4_readLattice_35
  refine a_aload_n dX4_readLattice_14 rfl ?_
  refine a_iconst dX4_readLattice_15 ?_
  refine a_callVi (as := [vi 3]) mf_X4_65 lyC_3 rfl (c_Reader_blame F _ _) LYsame.rf dX4_readLattice_16 rfl rfl rfl rfl rfl rfl (Or.inl rfl) fun r11 σ12 => ?_
  exact a_zret dX4_readLattice_19
def f_Reader_readLine_scene1 (F : Nat) (σ : St) : Option (Int × St) := gd (rng (gF σ 197) ∧ rng 2) (if (gF σ 197) = 2 then gd (rng64 (gF σ 199) ∧ rng64 30506450281915237) (if (gF σ 199) = 30506450281915237 then bnd (f_Reader_readLattice_scene1 F σ) fun r11 σ12 => gd (isb r11) (some (r11, σ12)) else gd (rng64 (gF σ 199) ∧ rng64 114784635872626) (if (gF σ 199) = 114784635872626 then bnd (f_Reader_readHearer_scene1 F σ) fun r9 σ10 => gd (isb r9) (some (r9, σ10)) else gd (rng64 (gF σ 199) ∧ rng64 126879480964466) (if (gF σ 199) = 126879480964466 then bnd (f_Reader_readSender_scene1 F σ) fun r7 σ8 => gd (isb r7) (some (r7, σ8)) else gd (rng64 (gF σ 199) ∧ rng64 32497584235442030) (if (gF σ 199) = 32497584235442030 then bnd (f_Reader_readStation_compass1 F σ (gF σ 5126)) fun r5 σ6 => gd (isb r5) (some (r5, σ6)) else gd (rng64 (gF σ 199) ∧ rng64 27696016923389543) (if (gF σ 199) = 27696016923389543 then bnd (f_Reader_readBearing_compass1 F σ) fun r3 σ4 => gd (isb r3) (some (r3, σ4)) else bnd (f_Reader_blame F σ 1) fun r1 σ2 => gd (isb r1) (some (r1, σ2))))))) else bnd (f_Reader_blame F σ 1) fun r13 σ14 => gd (isb r13) (some (r13, σ14)))
set_option maxRecDepth 100000 in
set_option maxHeartbeats 4000000 in
theorem c_Reader_readLine_scene1 (F : Nat) (σ : St) : Ct 5 0 1 yX4_readLine cX4_readLine 2 (some .boolean) (LYC true false false) (LYC true false false) [.ref 3, .ref 80] σ (f_Reader_readLine_scene1 F σ) := by
  unfold f_Reader_readLine_scene1
  refine Ct_of (d := 5) (kp := 0) (kd := 1) (own := RX4) (nL := 2) (ret := (some .boolean)) (LY := (LYC true false false)) (LYe := (LYC true false false)) (L := [some (.ref 3), some (.ref 80)]) rfl (by decide +kernel) rfl rfl mf_X4_58.2.2.2.1 rfl fun K => ?_
  refine a_aload_n dX4_readLine_0 rfl ?_
  refine a_getI fl_X4_51 lyC_3 rfl dX4_readLine_1 (key := 197) rfl ?_
  refine a_iconst dX4_readLine_4 ?_
  refine a_icmp_eq dX4_readLine_5 rfl (fun _ => ?_) (fun _ => ?_)
  · refine a_aload_n dX4_readLine_14 rfl ?_
    refine a_getL fl_X4_79 lyC_3 rfl dX4_readLine_15 (key := 199) rfl ?_
    refine a_ldc2 kc_X4_83 rfl dX4_readLine_18 ?_
    refine a_lcmp_ne dX4_readLine_21 dX4_readLine_22 rfl (fun _ => ?_) (fun _ => ?_)
    · refine a_aload_n dX4_readLine_31 rfl ?_
      refine a_getL fl_X4_79 lyC_3 rfl dX4_readLine_32 (key := 199) rfl ?_
      refine a_ldc2 kc_X4_88 rfl dX4_readLine_35 ?_
      refine a_lcmp_ne dX4_readLine_38 dX4_readLine_39 rfl (fun _ => ?_) (fun _ => ?_)
      · refine a_aload_n dX4_readLine_48 rfl ?_
        refine a_getL fl_X4_79 lyC_3 rfl dX4_readLine_49 (key := 199) rfl ?_
        refine a_ldc2 kc_X4_93 rfl dX4_readLine_52 ?_
        refine a_lcmp_ne dX4_readLine_55 dX4_readLine_56 rfl (fun _ => ?_) (fun _ => ?_)
        · refine a_aload_n dX4_readLine_65 rfl ?_
          refine a_getL fl_X4_79 lyC_3 rfl dX4_readLine_66 (key := 199) rfl ?_
          refine a_ldc2 kc_X4_98 rfl dX4_readLine_69 ?_
          refine a_lcmp_ne dX4_readLine_72 dX4_readLine_73 rfl (fun _ => ?_) (fun _ => ?_)
          · refine a_aload_n dX4_readLine_89 rfl ?_
            refine a_getL fl_X4_79 lyC_3 rfl dX4_readLine_90 (key := 199) rfl ?_
            refine a_ldc2 kc_X4_111 rfl dX4_readLine_93 ?_
            refine a_lcmp_ne dX4_readLine_96 dX4_readLine_97 rfl (fun _ => ?_) (fun _ => ?_)
            · refine a_aload_n dX4_readLine_109 rfl ?_
              refine a_iconst dX4_readLine_110 ?_
              refine a_callVi (as := [vi 1]) mf_X4_65 lyC_3 rfl (c_Reader_blame F _ _) LYsame.rf dX4_readLine_111 rfl rfl rfl rfl rfl rfl (Or.inl rfl) fun r1 σ2 => ?_
              exact a_zret dX4_readLine_114
            refine a_aload_n dX4_readLine_100 rfl ?_
            refine a_aload_n dX4_readLine_101 rfl ?_
            refine a_getR (c0 := 32) fl_X4_100 lyC_80 rfl dX4_readLine_102 (key := 5121) rfl ?_
            refine a_callVi (as := [.ref 32]) mf_X4_113 lyC_3 rfl (c_Reader_readBearing_compass1 F _) LYsame.rf dX4_readLine_105 rfl rfl rfl rfl rfl rfl (Or.inl rfl) fun r3 σ4 => ?_
            exact a_zret dX4_readLine_108
          refine a_aload_n dX4_readLine_76 rfl ?_
          refine a_aload_n dX4_readLine_77 rfl ?_
          refine a_getR (c0 := 32) fl_X4_100 lyC_80 rfl dX4_readLine_78 (key := 5121) rfl ?_
          refine a_aload_n dX4_readLine_81 rfl ?_
          refine a_getI fl_X4_104 lyC_80 rfl dX4_readLine_82 (key := 5126) rfl ?_
          refine a_callVi (as := [.ref 32, vi (gF σ 5126)]) mf_X4_107 lyC_3 rfl (c_Reader_readStation_compass1 F _ _) LYsame.rf dX4_readLine_85 rfl rfl rfl rfl rfl rfl (Or.inl rfl) fun r5 σ6 => ?_
          exact a_zret dX4_readLine_88
        refine a_aload_n dX4_readLine_59 rfl ?_
        refine a_aload_n dX4_readLine_60 rfl ?_
        refine a_callVi (as := [.ref 80]) mf_X4_95 lyC_3 rfl (c_Reader_readSender_scene1 F _) LYsame.rf dX4_readLine_61 rfl rfl rfl rfl rfl rfl (Or.inl rfl) fun r7 σ8 => ?_
        exact a_zret dX4_readLine_64
      refine a_aload_n dX4_readLine_42 rfl ?_
      refine a_aload_n dX4_readLine_43 rfl ?_
      refine a_callVi (as := [.ref 80]) mf_X4_90 lyC_3 rfl (c_Reader_readHearer_scene1 F _) LYsame.rf dX4_readLine_44 rfl rfl rfl rfl rfl rfl (Or.inl rfl) fun r9 σ10 => ?_
      exact a_zret dX4_readLine_47
    refine a_aload_n dX4_readLine_25 rfl ?_
    refine a_aload_n dX4_readLine_26 rfl ?_
    refine a_callVi (as := [.ref 80]) mf_X4_85 lyC_3 rfl (c_Reader_readLattice_scene1 F _) LYsame.rf dX4_readLine_27 rfl rfl rfl rfl rfl rfl (Or.inl rfl) fun r11 σ12 => ?_
    exact a_zret dX4_readLine_30
  refine a_aload_n dX4_readLine_8 rfl ?_
  refine a_iconst dX4_readLine_9 ?_
  refine a_callVi (as := [vi 1]) mf_X4_65 lyC_3 rfl (c_Reader_blame F _ _) LYsame.rf dX4_readLine_10 rfl rfl rfl rfl rfl rfl (Or.inl rfl) fun r13 σ14 => ?_
  exact a_zret dX4_readLine_13
def f_Reader_closeLine (F : Nat) (σ : St) : Option (Int × St) := gd (rng (gF σ 197) ∧ rng 4) (if (gF σ 197) = 4 then bnd (f_Reader_advance F σ) fun r1 σ2 => some (1, σ2) else bnd (f_Reader_blame F σ 1) fun r3 σ4 => gd (isb r3) (some (r3, σ4)))
set_option maxRecDepth 100000 in
set_option maxHeartbeats 4000000 in
theorem c_Reader_closeLine (F : Nat) (σ : St) : Ct 3 0 1 yX4_closeLine cX4_closeLine 1 (some .boolean) (LYC true false false) (LYC true false false) [.ref 3] σ (f_Reader_closeLine F σ) := by
  unfold f_Reader_closeLine
  refine Ct_of (d := 3) (kp := 0) (kd := 1) (own := RX4) (nL := 1) (ret := (some .boolean)) (LY := (LYC true false false)) (LYe := (LYC true false false)) (L := [some (.ref 3)]) rfl (by decide +kernel) rfl rfl mf_X4_61.2.2.2.1 rfl fun K => ?_
  refine a_aload_n dX4_closeLine_0 rfl ?_
  refine a_getI fl_X4_51 lyC_3 rfl dX4_closeLine_1 (key := 197) rfl ?_
  refine a_iconst dX4_closeLine_4 ?_
  refine a_icmp_eq dX4_closeLine_5 rfl (fun _ => ?_) (fun _ => ?_)
  · refine a_aload_n dX4_closeLine_14 rfl ?_
    refine a_callVv (as := []) mf_X4_48 lyC_3 rfl (c_Reader_advance F _) LYsame.rf dX4_closeLine_15 rfl rfl rfl rfl rfl rfl (Or.inl rfl) fun r1 σ2 => ?_
    refine a_iconst dX4_closeLine_18 ?_
    exact a_zretc (by decide) dX4_closeLine_19
  refine a_aload_n dX4_closeLine_8 rfl ?_
  refine a_iconst dX4_closeLine_9 ?_
  refine a_callVi (as := [vi 1]) mf_X4_65 lyC_3 rfl (c_Reader_blame F _ _) LYsame.rf dX4_closeLine_10 rfl rfl rfl rfl rfl rfl (Or.inl rfl) fun r3 σ4 => ?_
  exact a_zret dX4_closeLine_13
def b_Lattice_isPrime_2 (F : Nat) (self : St → Int → Int → Option (Int × St)) (σ : St) (x0 x1 : Int) : Option (Int × St) := gd (rng (x1 * x1) ∧ rng x0) (if x0 < (x1 * x1) then some (1, σ) else gd (rng x0 ∧ rng x1 ∧ x1 ≠ (0 : Int)) (gd (rng (Int.tmod x0 x1)) (if (Int.tmod x0 x1) = 0 then some (0, σ) else bv (x1 + 1) fun x1_1 => self σ x0 x1_1)))
def l_Lattice_isPrime_2 (F : Nat) : Nat → St → Int → Int → Option (Int × St)
  | 0 => fun _ _ _ => none
  | n + 1 => fun σ x0 x1 => b_Lattice_isPrime_2 F (l_Lattice_isPrime_2 F n) σ x0 x1
def f_Lattice_isPrime (F : Nat) (σ : St) (x0 : Int) : Option (Int × St) := l_Lattice_isPrime_2 F F σ x0 2
set_option maxRecDepth 100000 in
set_option maxHeartbeats 4000000 in
theorem cb_Lattice_isPrime_2 {K : KX} {x : Bool} (F : Nat) (self : St → Int → Int → Option (Int × St)) (hself : ∀ σ x0 x1, WA 1 0 1 cX2_isPrime RX2 2 (some .boolean) (LYC x false false) (LYC x false false) K 2 [some (vi x0), some (vi x1)] [] σ (self σ x0 x1)) (σ : St) (x0 x1 : Int) : WA 1 0 1 cX2_isPrime RX2 2 (some .boolean) (LYC x false false) (LYC x false false) K 2 [some (vi x0), some (vi x1)] [] σ (b_Lattice_isPrime_2 F self σ x0 x1) := by
  unfold b_Lattice_isPrime_2
  refine a_iload_n dX2_isPrime_2 rfl ?_
  refine a_iload_n dX2_isPrime_3 rfl ?_
  refine a_imul dX2_isPrime_4 ?_
  refine a_iload_n dX2_isPrime_5 rfl ?_
  refine a_icmp_gt dX2_isPrime_6 rfl (fun _ => ?_) (fun _ => ?_)
  · refine a_iconst dX2_isPrime_23 ?_
    exact a_zretc (by decide) dX2_isPrime_24
  refine a_iload_n dX2_isPrime_9 rfl ?_
  refine a_iload_n dX2_isPrime_10 rfl ?_
  refine a_irem dX2_isPrime_11 (fun _ => ?_)
  refine a_if_ne dX2_isPrime_12 rfl (fun _ => ?_) (fun _ => ?_)
  · refine a_bv fun x1_1 ex1_1 => ?_
    refine a_iinc (y := x1_1) (L' := [some (vi x0), some (vi x1_1)]) dX2_isPrime_17 rfl ex1_1 rfl rfl rfl ?_
    refine a_goto dX2_isPrime_20 rfl ?_
    exact hself _ _ _
  refine a_iconst dX2_isPrime_15 ?_
  exact a_zretc (by decide) dX2_isPrime_16
set_option maxRecDepth 100000 in
set_option maxHeartbeats 4000000 in
theorem cl_Lattice_isPrime_2 {K : KX} {x : Bool} (F : Nat) : ∀ (n : Nat) (σ : St) (x0 x1 : Int), WA 1 0 1 cX2_isPrime RX2 2 (some .boolean) (LYC x false false) (LYC x false false) K 2 [some (vi x0), some (vi x1)] [] σ (l_Lattice_isPrime_2 F n σ x0 x1)
  | 0, _, _, _ => a_none
  | n + 1, σ, x0, x1 => cb_Lattice_isPrime_2 F _ (cl_Lattice_isPrime_2 F n) σ x0 x1
set_option maxRecDepth 100000 in
set_option maxHeartbeats 4000000 in
theorem c_Lattice_isPrime {x : Bool} (F : Nat) (σ : St) (x0 : Int) : Ct 1 0 1 yX2_isPrime cX2_isPrime 2 (some .boolean) (LYC x false false) (LYC x false false) [vi x0] σ (f_Lattice_isPrime F σ x0) := by
  unfold f_Lattice_isPrime
  refine Ct_of (d := 1) (kp := 0) (kd := 1) (own := RX2) (nL := 2) (ret := (some .boolean)) (LY := (LYC x false false)) (LYe := (LYC x false false)) (L := [some (vi x0), none]) rfl (by decide +kernel) rfl rfl mf_X2_48.2.2.2.1 rfl fun K => ?_
  refine a_iconst dX2_isPrime_0 ?_
  refine a_istore_n (L' := [some (vi x0), some (vi 2)]) dX2_isPrime_1 rfl rfl rfl rfl ?_
  exact cl_Lattice_isPrime_2 F F _ _ _
def b_Lattice_primeFor_4 (F : Nat) (self : St → Int → Int → Option (Int × St)) (σ : St) (x0 x1 : Int) : Option (Int × St) := gd (rng x1 ∧ rng 1000000) (if (1000000 : Int) ≤ x1 then some (1001, σ) else gd (rng (x1 - 1) ∧ rng x0 ∧ x0 ≠ (0 : Int)) (gd (rng (Int.tmod (x1 - 1) x0)) (if (Int.tmod (x1 - 1) x0) = 0 then bnd (f_Lattice_isPrime F σ x1) fun r2 σ3 => gd (rng r2) (if r2 = 0 then bv (x1 + 1) fun x1_4 => self σ3 x0 x1_4 else some (x1, σ3)) else bv (x1 + 1) fun x1_1 => self σ x0 x1_1)))
def l_Lattice_primeFor_4 (F : Nat) : Nat → St → Int → Int → Option (Int × St)
  | 0 => fun _ _ _ => none
  | n + 1 => fun σ x0 x1 => b_Lattice_primeFor_4 F (l_Lattice_primeFor_4 F n) σ x0 x1
def f_Lattice_primeFor (F : Nat) (σ : St) (x0 : Int) : Option (Int × St) := l_Lattice_primeFor_4 F F σ x0 1001
set_option maxRecDepth 100000 in
set_option maxHeartbeats 4000000 in
theorem cb_Lattice_primeFor_4 {K : KX} {x : Bool} (F : Nat) (self : St → Int → Int → Option (Int × St)) (hself : ∀ σ x0 x1, WA 2 0 1 cX2_primeFor RX2 2 (some .int) (LYC x false false) (LYC x false false) K 4 [some (vi x0), some (vi x1)] [] σ (self σ x0 x1)) (σ : St) (x0 x1 : Int) : WA 2 0 1 cX2_primeFor RX2 2 (some .int) (LYC x false false) (LYC x false false) K 4 [some (vi x0), some (vi x1)] [] σ (b_Lattice_primeFor_4 F self σ x0 x1) := by
  unfold b_Lattice_primeFor_4
  refine a_iload_n dX2_primeFor_4 rfl ?_
  refine a_ldc kc_X2_47 rfl dX2_primeFor_5 ?_
  refine a_icmp_ge dX2_primeFor_7 rfl (fun _ => ?_) (fun _ => ?_)
  · refine a_sipush dX2_primeFor_33 si_1001 ?_
    exact a_iret dX2_primeFor_36
  refine a_iload_n dX2_primeFor_10 rfl ?_
  refine a_iconst dX2_primeFor_11 ?_
  refine a_isub dX2_primeFor_12 ?_
  refine a_iload_n dX2_primeFor_13 rfl ?_
  refine a_irem dX2_primeFor_14 (fun _ => ?_)
  refine a_if_ne dX2_primeFor_15 rfl (fun _ => ?_) (fun _ => ?_)
  · refine a_bv fun x1_1 ex1_1 => ?_
    refine a_iinc (y := x1_1) (L' := [some (vi x0), some (vi x1_1)]) dX2_primeFor_27 rfl ex1_1 rfl rfl rfl ?_
    refine a_goto dX2_primeFor_30 rfl ?_
    exact hself _ _ _
  refine a_iload_n dX2_primeFor_18 rfl ?_
  refine a_callSi (as := [vi x1]) mf_X2_48 (c_Lattice_isPrime F _ _) LYsame.rf dX2_primeFor_19 rfl rfl rfl rfl rfl rfl (Or.inl rfl) fun r2 σ3 => ?_
  refine a_if_eq dX2_primeFor_22 rfl (fun _ => ?_) (fun _ => ?_)
  · refine a_bv fun x1_4 ex1_4 => ?_
    refine a_iinc (y := x1_4) (L' := [some (vi x0), some (vi x1_4)]) dX2_primeFor_27 rfl ex1_4 rfl rfl rfl ?_
    refine a_goto dX2_primeFor_30 rfl ?_
    exact hself _ _ _
  refine a_iload_n dX2_primeFor_25 rfl ?_
  exact a_iret dX2_primeFor_26
set_option maxRecDepth 100000 in
set_option maxHeartbeats 4000000 in
theorem cl_Lattice_primeFor_4 {K : KX} {x : Bool} (F : Nat) : ∀ (n : Nat) (σ : St) (x0 x1 : Int), WA 2 0 1 cX2_primeFor RX2 2 (some .int) (LYC x false false) (LYC x false false) K 4 [some (vi x0), some (vi x1)] [] σ (l_Lattice_primeFor_4 F n σ x0 x1)
  | 0, _, _, _ => a_none
  | n + 1, σ, x0, x1 => cb_Lattice_primeFor_4 F _ (cl_Lattice_primeFor_4 F n) σ x0 x1
set_option maxRecDepth 100000 in
set_option maxHeartbeats 4000000 in
theorem c_Lattice_primeFor {x : Bool} (F : Nat) (σ : St) (x0 : Int) : Ct 2 0 1 yX2_primeFor cX2_primeFor 2 (some .int) (LYC x false false) (LYC x false false) [vi x0] σ (f_Lattice_primeFor F σ x0) := by
  unfold f_Lattice_primeFor
  refine Ct_of (d := 2) (kp := 0) (kd := 1) (own := RX2) (nL := 2) (ret := (some .int)) (LY := (LYC x false false)) (LYe := (LYC x false false)) (L := [some (vi x0), none]) rfl (by decide +kernel) rfl rfl mf_X2_23.2.2.2.1 rfl fun K => ?_
  refine a_sipush dX2_primeFor_0 si_1001 ?_
  refine a_istore_n (L' := [some (vi x0), some (vi 1001)]) dX2_primeFor_3 rfl rfl rfl rfl ?_
  exact cl_Lattice_primeFor_4 F F _ _ _
def f_W_product (F : Nat) (σ : St) (x0 x1 x2 : Int) : Option (Int × St) := gd (rng x0) (gd (rng x1) (gd (rng x2) (gd (rng64 (x0 * x1) ∧ rng64 x2 ∧ x2 ≠ (0 : Int)) (some ((Int.tmod (x0 * x1) x2), σ)))))
set_option maxRecDepth 100000 in
set_option maxHeartbeats 4000000 in
theorem c_W_product {x : Bool} (F : Nat) (σ : St) (x0 x1 x2 : Int) : Ct 1 0 1 yX10_product cX10_product 3 (some .int) (LYC x false false) (LYC x false false) [vi x0, vi x1, vi x2] σ (f_W_product F σ x0 x1 x2) := by
  unfold f_W_product
  refine Ct_of (d := 1) (kp := 0) (kd := 1) (own := RX10) (nL := 3) (ret := (some .int)) (LY := (LYC x false false)) (LYe := (LYC x false false)) (L := [some (vi x0), some (vi x1), some (vi x2)]) rfl (by decide +kernel) rfl rfl mf_X10_257.2.2.2.1 rfl fun K => ?_
  refine a_iload_n dX10_product_0 rfl ?_
  refine a_i2l dX10_product_1 (fun _ => ?_)
  refine a_iload_n dX10_product_2 rfl ?_
  refine a_i2l dX10_product_3 (fun _ => ?_)
  refine a_lmul dX10_product_4 ?_
  refine a_iload_n dX10_product_5 rfl ?_
  refine a_i2l dX10_product_6 (fun _ => ?_)
  refine a_lrem dX10_product_7 (fun _ => ?_)
  refine a_l2i dX10_product_8 ?_
  exact a_iret dX10_product_9
def b_Lattice_comesRoundFirstAt_5 (F : Nat) (self : St → Int → Int → Int → Int → Int → Option (Int × St)) (σ : St) (x0 x1 x2 x3 x4 : Int) : Option (Int × St) := gd (rng x4 ∧ rng x1) (if x1 ≤ x4 then gd (rng x3 ∧ rng 1) (if x3 = 1 then some (1, σ) else some (0, σ)) else gd (rng x3 ∧ rng 1) (if x3 = 1 then some (0, σ) else bnd (f_W_product F σ x3 x0 x2) fun r1 σ2 => bv (x4 + 1) fun x4_3 => self σ2 x0 x1 x2 r1 x4_3))
def l_Lattice_comesRoundFirstAt_5 (F : Nat) : Nat → St → Int → Int → Int → Int → Int → Option (Int × St)
  | 0 => fun _ _ _ _ _ _ => none
  | n + 1 => fun σ x0 x1 x2 x3 x4 => b_Lattice_comesRoundFirstAt_5 F (l_Lattice_comesRoundFirstAt_5 F n) σ x0 x1 x2 x3 x4
def f_Lattice_comesRoundFirstAt (F : Nat) (σ : St) (x0 x1 x2 : Int) : Option (Int × St) := l_Lattice_comesRoundFirstAt_5 F F σ x0 x1 x2 x0 1
set_option maxRecDepth 100000 in
set_option maxHeartbeats 4000000 in
theorem cb_Lattice_comesRoundFirstAt_5 {K : KX} {x : Bool} (F : Nat) (self : St → Int → Int → Int → Int → Int → Option (Int × St)) (hself : ∀ σ x0 x1 x2 x3 x4, WA 2 0 1 cX2_comesRoundFirstAt RX2 5 (some .boolean) (LYC x false false) (LYC x false false) K 5 [some (vi x0), some (vi x1), some (vi x2), some (vi x3), some (vi x4)] [] σ (self σ x0 x1 x2 x3 x4)) (σ : St) (x0 x1 x2 x3 x4 : Int) : WA 2 0 1 cX2_comesRoundFirstAt RX2 5 (some .boolean) (LYC x false false) (LYC x false false) K 5 [some (vi x0), some (vi x1), some (vi x2), some (vi x3), some (vi x4)] [] σ (b_Lattice_comesRoundFirstAt_5 F self σ x0 x1 x2 x3 x4) := by
  unfold b_Lattice_comesRoundFirstAt_5
  refine a_iload dX2_comesRoundFirstAt_5 rfl ?_
  refine a_iload_n dX2_comesRoundFirstAt_7 rfl ?_
  refine a_icmp_ge dX2_comesRoundFirstAt_8 rfl (fun _ => ?_) (fun _ => ?_)
  · refine a_iload_n dX2_comesRoundFirstAt_31 rfl ?_
    refine a_iconst dX2_comesRoundFirstAt_32 ?_
    refine a_icmp_ne dX2_comesRoundFirstAt_33 rfl (fun _ => ?_) (fun _ => ?_)
    · refine a_iconst dX2_comesRoundFirstAt_40 ?_
      exact a_zretc (by decide) dX2_comesRoundFirstAt_41
    refine a_iconst dX2_comesRoundFirstAt_36 ?_
    refine a_goto dX2_comesRoundFirstAt_37 rfl ?_
    exact a_zretc (by decide) dX2_comesRoundFirstAt_41
  refine a_iload_n dX2_comesRoundFirstAt_11 rfl ?_
  refine a_iconst dX2_comesRoundFirstAt_12 ?_
  refine a_icmp_ne dX2_comesRoundFirstAt_13 rfl (fun _ => ?_) (fun _ => ?_)
  · refine a_iload_n dX2_comesRoundFirstAt_18 rfl ?_
    refine a_iload_n dX2_comesRoundFirstAt_19 rfl ?_
    refine a_iload_n dX2_comesRoundFirstAt_20 rfl ?_
    refine a_callNi (as := [vi x3, vi x0, vi x2]) mf_X2_37 (c_W_product F _ _ _ _) LYsame.rf dX2_comesRoundFirstAt_21 rfl rfl rfl rfl rfl rfl (Or.inl rfl) fun r1 σ2 => ?_
    refine a_istore_n (L' := [some (vi x0), some (vi x1), some (vi x2), some (vi r1), some (vi x4)]) dX2_comesRoundFirstAt_24 rfl rfl rfl rfl ?_
    refine a_bv fun x4_3 ex4_3 => ?_
    refine a_iinc (y := x4_3) (L' := [some (vi x0), some (vi x1), some (vi x2), some (vi r1), some (vi x4_3)]) dX2_comesRoundFirstAt_25 rfl ex4_3 rfl rfl rfl ?_
    refine a_goto dX2_comesRoundFirstAt_28 rfl ?_
    exact hself _ _ _ _ _ _
  refine a_iconst dX2_comesRoundFirstAt_16 ?_
  exact a_zretc (by decide) dX2_comesRoundFirstAt_17
set_option maxRecDepth 100000 in
set_option maxHeartbeats 4000000 in
theorem cl_Lattice_comesRoundFirstAt_5 {K : KX} {x : Bool} (F : Nat) : ∀ (n : Nat) (σ : St) (x0 x1 x2 x3 x4 : Int), WA 2 0 1 cX2_comesRoundFirstAt RX2 5 (some .boolean) (LYC x false false) (LYC x false false) K 5 [some (vi x0), some (vi x1), some (vi x2), some (vi x3), some (vi x4)] [] σ (l_Lattice_comesRoundFirstAt_5 F n σ x0 x1 x2 x3 x4)
  | 0, _, _, _, _, _, _ => a_none
  | n + 1, σ, x0, x1, x2, x3, x4 => cb_Lattice_comesRoundFirstAt_5 F _ (cl_Lattice_comesRoundFirstAt_5 F n) σ x0 x1 x2 x3 x4
set_option maxRecDepth 100000 in
set_option maxHeartbeats 4000000 in
theorem c_Lattice_comesRoundFirstAt {x : Bool} (F : Nat) (σ : St) (x0 x1 x2 : Int) : Ct 2 0 1 yX2_comesRoundFirstAt cX2_comesRoundFirstAt 5 (some .boolean) (LYC x false false) (LYC x false false) [vi x0, vi x1, vi x2] σ (f_Lattice_comesRoundFirstAt F σ x0 x1 x2) := by
  unfold f_Lattice_comesRoundFirstAt
  refine Ct_of (d := 2) (kp := 0) (kd := 1) (own := RX2) (nL := 5) (ret := (some .boolean)) (LY := (LYC x false false)) (LYe := (LYC x false false)) (L := [some (vi x0), some (vi x1), some (vi x2), none, none]) rfl (by decide +kernel) rfl rfl mf_X2_52.2.2.2.1 rfl fun K => ?_
  refine a_iload_n dX2_comesRoundFirstAt_0 rfl ?_
  refine a_istore_n (L' := [some (vi x0), some (vi x1), some (vi x2), some (vi x0), none]) dX2_comesRoundFirstAt_1 rfl rfl rfl rfl ?_
  refine a_iconst dX2_comesRoundFirstAt_2 ?_
  refine a_istore (L' := [some (vi x0), some (vi x1), some (vi x2), some (vi x0), some (vi 1)]) dX2_comesRoundFirstAt_3 rfl rfl rfl rfl ?_
  exact cl_Lattice_comesRoundFirstAt_5 F F _ _ _ _ _ _
def b_Lattice_rootFor_2 (F : Nat) (self : St → Int → Int → Int → Option (Int × St)) (σ : St) (x0 x1 x2 : Int) : Option (Int × St) := gd (rng x2 ∧ rng x1) (if x1 ≤ x2 then some (1, σ) else bnd (f_Lattice_comesRoundFirstAt F σ x2 x0 x1) fun r1 σ2 => gd (rng r1) (if r1 = 0 then bv (x2 + 1) fun x2_3 => self σ2 x0 x1 x2_3 else some (x2, σ2)))
def l_Lattice_rootFor_2 (F : Nat) : Nat → St → Int → Int → Int → Option (Int × St)
  | 0 => fun _ _ _ _ => none
  | n + 1 => fun σ x0 x1 x2 => b_Lattice_rootFor_2 F (l_Lattice_rootFor_2 F n) σ x0 x1 x2
def f_Lattice_rootFor (F : Nat) (σ : St) (x0 x1 : Int) : Option (Int × St) := l_Lattice_rootFor_2 F F σ x0 x1 2
set_option maxRecDepth 100000 in
set_option maxHeartbeats 4000000 in
theorem cb_Lattice_rootFor_2 {K : KX} {x : Bool} (F : Nat) (self : St → Int → Int → Int → Option (Int × St)) (hself : ∀ σ x0 x1 x2, WA 3 0 1 cX2_rootFor RX2 3 (some .int) (LYC x false false) (LYC x false false) K 2 [some (vi x0), some (vi x1), some (vi x2)] [] σ (self σ x0 x1 x2)) (σ : St) (x0 x1 x2 : Int) : WA 3 0 1 cX2_rootFor RX2 3 (some .int) (LYC x false false) (LYC x false false) K 2 [some (vi x0), some (vi x1), some (vi x2)] [] σ (b_Lattice_rootFor_2 F self σ x0 x1 x2) := by
  unfold b_Lattice_rootFor_2
  refine a_iload_n dX2_rootFor_2 rfl ?_
  refine a_iload_n dX2_rootFor_3 rfl ?_
  refine a_icmp_ge dX2_rootFor_4 rfl (fun _ => ?_) (fun _ => ?_)
  · refine a_iconst dX2_rootFor_24 ?_
    exact a_iret dX2_rootFor_25
  refine a_iload_n dX2_rootFor_7 rfl ?_
  refine a_iload_n dX2_rootFor_8 rfl ?_
  refine a_iload_n dX2_rootFor_9 rfl ?_
  refine a_callSi (as := [vi x2, vi x0, vi x1]) mf_X2_52 (c_Lattice_comesRoundFirstAt F _ _ _ _) LYsame.rf dX2_rootFor_10 rfl rfl rfl rfl rfl rfl (Or.inl rfl) fun r1 σ2 => ?_
  refine a_if_eq dX2_rootFor_13 rfl (fun _ => ?_) (fun _ => ?_)
  · refine a_bv fun x2_3 ex2_3 => ?_
    refine a_iinc (y := x2_3) (L' := [some (vi x0), some (vi x1), some (vi x2_3)]) dX2_rootFor_18 rfl ex2_3 rfl rfl rfl ?_
    refine a_goto dX2_rootFor_21 rfl ?_
    exact hself _ _ _ _
  refine a_iload_n dX2_rootFor_16 rfl ?_
  exact a_iret dX2_rootFor_17
set_option maxRecDepth 100000 in
set_option maxHeartbeats 4000000 in
theorem cl_Lattice_rootFor_2 {K : KX} {x : Bool} (F : Nat) : ∀ (n : Nat) (σ : St) (x0 x1 x2 : Int), WA 3 0 1 cX2_rootFor RX2 3 (some .int) (LYC x false false) (LYC x false false) K 2 [some (vi x0), some (vi x1), some (vi x2)] [] σ (l_Lattice_rootFor_2 F n σ x0 x1 x2)
  | 0, _, _, _, _ => a_none
  | n + 1, σ, x0, x1, x2 => cb_Lattice_rootFor_2 F _ (cl_Lattice_rootFor_2 F n) σ x0 x1 x2
set_option maxRecDepth 100000 in
set_option maxHeartbeats 4000000 in
theorem c_Lattice_rootFor {x : Bool} (F : Nat) (σ : St) (x0 x1 : Int) : Ct 3 0 1 yX2_rootFor cX2_rootFor 3 (some .int) (LYC x false false) (LYC x false false) [vi x0, vi x1] σ (f_Lattice_rootFor F σ x0 x1) := by
  unfold f_Lattice_rootFor
  refine Ct_of (d := 3) (kp := 0) (kd := 1) (own := RX2) (nL := 3) (ret := (some .int)) (LY := (LYC x false false)) (LYe := (LYC x false false)) (L := [some (vi x0), some (vi x1), none]) rfl (by decide +kernel) rfl rfl mf_X2_30.2.2.2.1 rfl fun K => ?_
  refine a_iconst dX2_rootFor_0 ?_
  refine a_istore_n (L' := [some (vi x0), some (vi x1), some (vi 2)]) dX2_rootFor_1 rfl rfl rfl rfl ?_
  exact cl_Lattice_rootFor_2 F F _ _ _ _
def b_Lattice_spread_lattice1_54 (F : Nat) (self : St → Int → Int → Option (Int × St)) (σ : St) (x1 x2 : Int) : Option (Int × St) := gd (rng x2 ∧ rng x1) (if x1 ≤ x2 then some (0, σ) else gd (inb (x2 - 1) 60) (bnd (f_W_product F σ (gA σ 28 (Int.toNat (x2 - 1))) (gF σ 1538) (gF σ 1537)) fun r9 σ10 => gd (inb x2 60) (bs (sA σ10 28 (Int.toNat x2) r9) fun σ11 => bv (x2 + 1) fun x2_12 => self σ11 x1 x2_12)))
def l_Lattice_spread_lattice1_54 (F : Nat) : Nat → St → Int → Int → Option (Int × St)
  | 0 => fun _ _ _ => none
  | n + 1 => fun σ x1 x2 => b_Lattice_spread_lattice1_54 F (l_Lattice_spread_lattice1_54 F n) σ x1 x2
def f_Lattice_spread_lattice1 (F : Nat) (σ : St) (x1 : Int) : Option (Int × St) := gd (rng x1 ∧ rng (gF σ 1536)) (if x1 = (gF σ 1536) then some (0, σ) else gd (rng x1 ∧ rng 2) (if x1 < 2 then some (0, σ) else gd (rng x1 ∧ rng 60) (if x1 ≤ 60 then bs (sF σ 1536 x1) fun σ1 => bnd (f_Lattice_primeFor F σ1 x1) fun r2 σ3 => bs (sF σ3 1537 r2) fun σ4 => bnd (f_Lattice_rootFor F σ4 x1 (gF σ4 1537)) fun r5 σ6 => bs (sF σ6 1538 r5) fun σ7 => gd (inb 0 60) (bs (sA σ7 28 (Int.toNat 0) 1) fun σ8 => l_Lattice_spread_lattice1_54 F F σ8 x1 1) else some (0, σ))))
set_option maxRecDepth 100000 in
set_option maxHeartbeats 4000000 in
theorem cb_Lattice_spread_lattice1_54 {K : KX} {x : Bool} (F : Nat) (self : St → Int → Int → Option (Int × St)) (hself : ∀ σ x1 x2, WA 4 0 0 cX2_spread RX2 3 none (LYC x false false) (LYC x false false) K 54 [some (.ref 24), some (vi x1), some (vi x2)] [] σ (self σ x1 x2)) (σ : St) (x1 x2 : Int) : WA 4 0 0 cX2_spread RX2 3 none (LYC x false false) (LYC x false false) K 54 [some (.ref 24), some (vi x1), some (vi x2)] [] σ (b_Lattice_spread_lattice1_54 F self σ x1 x2) := by
  unfold b_Lattice_spread_lattice1_54
  refine a_iload_n dX2_spread_54 rfl ?_
  refine a_iload_n dX2_spread_55 rfl ?_
  refine a_icmp_ge dX2_spread_56 rfl (fun _ => ?_) (fun _ => ?_)
  · exact a_vret dX2_spread_90
  refine a_aload_n dX2_spread_59 rfl ?_
  refine a_getR (c0 := 28) fl_X2_9 lyC_24 rfl dX2_spread_60 (key := 1539) rfl ?_
  refine a_iload_n dX2_spread_63 rfl ?_
  refine a_aload_n dX2_spread_64 rfl ?_
  refine a_getR (c0 := 28) fl_X2_9 lyC_24 rfl dX2_spread_65 (key := 1539) rfl ?_
  refine a_iload_n dX2_spread_68 rfl ?_
  refine a_iconst dX2_spread_69 ?_
  refine a_isub dX2_spread_70 ?_
  refine a_iald lyC_28 rfl dX2_spread_71 ?_
  refine a_aload_n dX2_spread_72 rfl ?_
  refine a_getI fl_X2_34 lyC_24 rfl dX2_spread_73 (key := 1538) rfl ?_
  refine a_aload_n dX2_spread_76 rfl ?_
  refine a_getI fl_X2_27 lyC_24 rfl dX2_spread_77 (key := 1537) rfl ?_
  refine a_callNi (as := [vi (gA σ 28 (Int.toNat (x2 - 1))), vi (gF σ 1538), vi (gF σ 1537)]) mf_X2_37 (c_W_product F _ _ _ _) LYsame.rf dX2_spread_80 rfl rfl rfl rfl rfl rfl (Or.inl rfl) fun r9 σ10 => ?_
  refine a_iast lyC_28 rfl dX2_spread_83 fun σ11 => ?_
  refine a_bv fun x2_12 ex2_12 => ?_
  refine a_iinc (y := x2_12) (L' := [some (.ref 24), some (vi x1), some (vi x2_12)]) dX2_spread_84 rfl ex2_12 rfl rfl rfl ?_
  refine a_goto dX2_spread_87 rfl ?_
  exact hself _ _ _
set_option maxRecDepth 100000 in
set_option maxHeartbeats 4000000 in
theorem cl_Lattice_spread_lattice1_54 {K : KX} {x : Bool} (F : Nat) : ∀ (n : Nat) (σ : St) (x1 x2 : Int), WA 4 0 0 cX2_spread RX2 3 none (LYC x false false) (LYC x false false) K 54 [some (.ref 24), some (vi x1), some (vi x2)] [] σ (l_Lattice_spread_lattice1_54 F n σ x1 x2)
  | 0, _, _, _ => a_none
  | n + 1, σ, x1, x2 => cb_Lattice_spread_lattice1_54 F _ (cl_Lattice_spread_lattice1_54 F n) σ x1 x2
set_option maxRecDepth 100000 in
set_option maxHeartbeats 4000000 in
theorem c_Lattice_spread_lattice1 {x : Bool} (F : Nat) (σ : St) (x1 : Int) : Ct 4 0 0 yX2_spread cX2_spread 3 none (LYC x false false) (LYC x false false) [.ref 24, vi x1] σ (f_Lattice_spread_lattice1 F σ x1) := by
  unfold f_Lattice_spread_lattice1
  refine Ct_of (d := 4) (kp := 0) (kd := 0) (own := RX2) (nL := 3) (ret := none) (LY := (LYC x false false)) (LYe := (LYC x false false)) (L := [some (.ref 24), some (vi x1), none]) rfl (by decide +kernel) rfl rfl mf_X2_15.2.2.2.1 rfl fun K => ?_
  refine a_iload_n dX2_spread_0 rfl ?_
  refine a_aload_n dX2_spread_1 rfl ?_
  refine a_getI fl_X2_19 lyC_24 rfl dX2_spread_2 (key := 1536) rfl ?_
  refine a_icmp_eq dX2_spread_5 rfl (fun _ => ?_) (fun _ => ?_)
  · exact a_vret dX2_spread_19
  refine a_iload_n dX2_spread_8 rfl ?_
  refine a_iconst dX2_spread_9 ?_
  refine a_icmp_lt dX2_spread_10 rfl (fun _ => ?_) (fun _ => ?_)
  · exact a_vret dX2_spread_19
  refine a_iload_n dX2_spread_13 rfl ?_
  refine a_bipush dX2_spread_14 bi_60 ?_
  refine a_icmp_le dX2_spread_16 rfl (fun _ => ?_) (fun _ => ?_)
  · refine a_aload_n dX2_spread_20 rfl ?_
    refine a_iload_n dX2_spread_21 rfl ?_
    refine a_putI fl_X2_19 cf_X2 rfl rfl lyC_24 rfl dX2_spread_22 (key := 1536) rfl fun σ1 => ?_
    refine a_aload_n dX2_spread_25 rfl ?_
    refine a_iload_n dX2_spread_26 rfl ?_
    refine a_callSi (as := [vi x1]) mf_X2_23 (c_Lattice_primeFor F _ _) LYsame.rf dX2_spread_27 rfl rfl rfl rfl rfl rfl (Or.inl rfl) fun r2 σ3 => ?_
    refine a_putI fl_X2_27 cf_X2 rfl rfl lyC_24 rfl dX2_spread_30 (key := 1537) rfl fun σ4 => ?_
    refine a_aload_n dX2_spread_33 rfl ?_
    refine a_iload_n dX2_spread_34 rfl ?_
    refine a_aload_n dX2_spread_35 rfl ?_
    refine a_getI fl_X2_27 lyC_24 rfl dX2_spread_36 (key := 1537) rfl ?_
    refine a_callSi (as := [vi x1, vi (gF σ4 1537)]) mf_X2_30 (c_Lattice_rootFor F _ _ _) LYsame.rf dX2_spread_39 rfl rfl rfl rfl rfl rfl (Or.inl rfl) fun r5 σ6 => ?_
    refine a_putI fl_X2_34 cf_X2 rfl rfl lyC_24 rfl dX2_spread_42 (key := 1538) rfl fun σ7 => ?_
    refine a_aload_n dX2_spread_45 rfl ?_
    refine a_getR (c0 := 28) fl_X2_9 lyC_24 rfl dX2_spread_46 (key := 1539) rfl ?_
    refine a_iconst dX2_spread_49 ?_
    refine a_iconst dX2_spread_50 ?_
    refine a_iast lyC_28 rfl dX2_spread_51 fun σ8 => ?_
    refine a_iconst dX2_spread_52 ?_
    refine a_istore_n (L' := [some (.ref 24), some (vi x1), some (vi 1)]) dX2_spread_53 rfl rfl rfl rfl ?_
    exact cl_Lattice_spread_lattice1_54 F F _ _ _
  exact a_vret dX2_spread_19
def f_Reader_readToEnd_scene1 (F : Nat) (σ : St) : Option (Int × St) := gd (rng (gF σ 195) ∧ rng 900) (if (gF σ 195) ≤ 900 then bnd (f_Lattice_spread_lattice1 F σ (gF σ 201)) fun r1 σ2 => some (1, σ2) else bnd (f_Reader_blame F σ 1) fun r3 σ4 => gd (isb r3) (some (r3, σ4)))
set_option maxRecDepth 100000 in
set_option maxHeartbeats 4000000 in
theorem c_Reader_readToEnd_scene1 (F : Nat) (σ : St) : Ct 5 0 1 yX4_readToEnd cX4_readToEnd 2 (some .boolean) (LYC true false false) (LYC true false false) [.ref 3, .ref 80] σ (f_Reader_readToEnd_scene1 F σ) := by
  unfold f_Reader_readToEnd_scene1
  refine Ct_of (d := 5) (kp := 0) (kd := 1) (own := RX4) (nL := 2) (ret := (some .boolean)) (LY := (LYC true false false)) (LYe := (LYC true false false)) (L := [some (.ref 3), some (.ref 80)]) rfl (by decide +kernel) rfl rfl mf_X4_54.2.2.2.1 rfl fun K => ?_
  refine a_aload_n dX4_readToEnd_0 rfl ?_
  refine a_getI fl_X4_29 lyC_3 rfl dX4_readToEnd_1 (key := 195) rfl ?_
  refine a_sipush dX4_readToEnd_4 si_900 ?_
  refine a_icmp_le dX4_readToEnd_7 rfl (fun _ => ?_) (fun _ => ?_)
  · refine a_aload_n dX4_readToEnd_16 rfl ?_
    refine a_getR (c0 := 24) fl_X4_69 lyC_80 rfl dX4_readToEnd_17 (key := 5120) rfl ?_
    refine a_aload_n dX4_readToEnd_20 rfl ?_
    refine a_getI fl_X4_38 lyC_3 rfl dX4_readToEnd_21 (key := 201) rfl ?_
    refine a_callVv (as := [vi (gF σ 201)]) mf_X4_73 lyC_24 rfl (c_Lattice_spread_lattice1 F _ _) LYsame.rf dX4_readToEnd_24 rfl rfl rfl rfl rfl rfl (Or.inl rfl) fun r1 σ2 => ?_
    refine a_iconst dX4_readToEnd_27 ?_
    exact a_zretc (by decide) dX4_readToEnd_28
  refine a_aload_n dX4_readToEnd_10 rfl ?_
  refine a_iconst dX4_readToEnd_11 ?_
  refine a_callVi (as := [vi 1]) mf_X4_65 lyC_3 rfl (c_Reader_blame F _ _) LYsame.rf dX4_readToEnd_12 rfl rfl rfl rfl rfl rfl (Or.inl rfl) fun r3 σ4 => ?_
  exact a_zret dX4_readToEnd_15
def b_Reader_readInto_scene1_47 (F : Nat) (self : St → Int → Option (Int × St)) (σ : St) (x3 : Int) : Option (Int × St) := gd (rng x3 ∧ rng 900) (if (900 : Int) < x3 then some ((-1), σ) else gd (rng (gF σ 197)) (if (gF σ 197) = 0 then bnd (f_Reader_readToEnd_scene1 F σ) fun r15 σ16 => gd (rng r15) (if r15 = 0 then some ((-1), σ16) else some (x3, σ16)) else bnd (f_Reader_readLine_scene1 F σ) fun r10 σ11 => gd (rng r10) (if r10 = 0 then some ((-1), σ11) else bnd (f_Reader_closeLine F σ11) fun r12 σ13 => gd (rng r12) (if r12 = 0 then some ((-1), σ13) else bv (x3 + 1) fun x3_14 => self σ13 x3_14))))
def l_Reader_readInto_scene1_47 (F : Nat) : Nat → St → Int → Option (Int × St)
  | 0 => fun _ _ => none
  | n + 1 => fun σ x3 => b_Reader_readInto_scene1_47 F (l_Reader_readInto_scene1_47 F n) σ x3
def f_Reader_readInto_scene1 (F : Nat) (σ : St) : Option (Int × St) := bs (sF σ 195 (gF σ 65)) fun σ1 => bnd (f_Scene_clear_scene1 F σ1) fun r2 σ3 => bs (sF σ3 193 0) fun σ4 => bs (sF σ4 201 12) fun σ5 => gd (isb 0) (bs (sF σ5 202 0) fun σ6 => bs (sF σ6 196 0) fun σ7 => bnd (f_Reader_advance F σ7) fun r8 σ9 => l_Reader_readInto_scene1_47 F F σ9 0)
set_option maxRecDepth 100000 in
set_option maxHeartbeats 4000000 in
theorem cb_Reader_readInto_scene1_47 {K : KX} (F : Nat) (self : St → Int → Option (Int × St)) (hself : ∀ σ x3, WA 6 0 1 cX4_readInto RX4 4 (some .int) (LYC true false false) (LYC true false false) K 47 [some (.ref 3), some (.ref 80), none, some (vi x3)] [] σ (self σ x3)) (σ : St) (x3 : Int) : WA 6 0 1 cX4_readInto RX4 4 (some .int) (LYC true false false) (LYC true false false) K 47 [some (.ref 3), some (.ref 80), none, some (vi x3)] [] σ (b_Reader_readInto_scene1_47 F self σ x3) := by
  unfold b_Reader_readInto_scene1_47
  refine a_iload_n dX4_readInto_47 rfl ?_
  refine a_sipush dX4_readInto_48 si_900 ?_
  refine a_icmp_gt dX4_readInto_51 rfl (fun _ => ?_) (fun _ => ?_)
  · refine a_iconst dX4_readInto_98 ?_
    exact a_iret dX4_readInto_99
  refine a_aload_n dX4_readInto_54 rfl ?_
  refine a_getI fl_X4_51 lyC_3 rfl dX4_readInto_55 (key := 197) rfl ?_
  refine a_if_ne dX4_readInto_58 rfl (fun _ => ?_) (fun _ => ?_)
  · refine a_aload_n dX4_readInto_75 rfl ?_
    refine a_aload_n dX4_readInto_76 rfl ?_
    refine a_callVi (as := [.ref 80]) mf_X4_58 lyC_3 rfl (c_Reader_readLine_scene1 F _) LYsame.rf dX4_readInto_77 rfl rfl rfl rfl rfl rfl (Or.inl rfl) fun r10 σ11 => ?_
    refine a_if_eq dX4_readInto_80 rfl (fun _ => ?_) (fun _ => ?_)
    · refine a_iconst dX4_readInto_90 ?_
      exact a_iret dX4_readInto_91
    refine a_aload_n dX4_readInto_83 rfl ?_
    refine a_callVi (as := []) mf_X4_61 lyC_3 rfl (c_Reader_closeLine F _) LYsame.rf dX4_readInto_84 rfl rfl rfl rfl rfl rfl (Or.inl rfl) fun r12 σ13 => ?_
    refine a_if_ne dX4_readInto_87 rfl (fun _ => ?_) (fun _ => ?_)
    · refine a_bv fun x3_14 ex3_14 => ?_
      refine a_iinc (y := x3_14) (L' := [some (.ref 3), some (.ref 80), none, some (vi x3_14)]) dX4_readInto_92 rfl ex3_14 rfl rfl rfl ?_
      refine a_goto dX4_readInto_95 rfl ?_
      exact hself _ _
    refine a_iconst dX4_readInto_90 ?_
    exact a_iret dX4_readInto_91
  refine a_aload_n dX4_readInto_61 rfl ?_
  refine a_aload_n dX4_readInto_62 rfl ?_
  refine a_callVi (as := [.ref 80]) mf_X4_54 lyC_3 rfl (c_Reader_readToEnd_scene1 F _) LYsame.rf dX4_readInto_63 rfl rfl rfl rfl rfl rfl (Or.inl rfl) fun r15 σ16 => ?_
  refine a_if_eq dX4_readInto_66 rfl (fun _ => ?_) (fun _ => ?_)
  · refine a_iconst dX4_readInto_73 ?_
    exact a_iret dX4_readInto_74
  refine a_iload_n dX4_readInto_69 rfl ?_
  refine a_goto dX4_readInto_70 rfl ?_
  exact a_iret dX4_readInto_74
set_option maxRecDepth 100000 in
set_option maxHeartbeats 4000000 in
theorem cl_Reader_readInto_scene1_47 {K : KX} (F : Nat) : ∀ (n : Nat) (σ : St) (x3 : Int), WA 6 0 1 cX4_readInto RX4 4 (some .int) (LYC true false false) (LYC true false false) K 47 [some (.ref 3), some (.ref 80), none, some (vi x3)] [] σ (l_Reader_readInto_scene1_47 F n σ x3)
  | 0, _, _ => a_none
  | n + 1, σ, x3 => cb_Reader_readInto_scene1_47 F _ (cl_Reader_readInto_scene1_47 F n) σ x3
set_option maxRecDepth 100000 in
set_option maxHeartbeats 4000000 in
theorem c_Reader_readInto_scene1 {x : Bool} (F : Nat) (σ : St) : Ct 6 0 1 yX4_readInto cX4_readInto 4 (some .int) (LYC x false false) (LYC true false false) [.ref 3, .ref 80, .ref 1] σ (f_Reader_readInto_scene1 F σ) := by
  unfold f_Reader_readInto_scene1
  refine Ct_of (d := 6) (kp := 0) (kd := 1) (own := RX4) (nL := 4) (ret := (some .int)) (LY := (LYC x false false)) (LYe := (LYC true false false)) (L := [some (.ref 3), some (.ref 80), some (.ref 1), none]) rfl (by decide +kernel) rfl rfl mf_X10_111.2.2.2.1 rfl fun K => ?_
  refine a_aload_n dX4_readInto_0 rfl ?_
  refine a_aload_n dX4_readInto_1 rfl ?_
  refine a_getR (c0 := 2) fl_X4_22 lyC_1 rfl dX4_readInto_2 (key := 64) rfl ?_
  refine a_putR fl_X4_9 cf_X4 rfl rfl (fun _ => rfl) (fun _ => rfl) lyC_3 rfl (lyput_bytes _) dX4_readInto_5 ?_
  refine a_aload_n dX4_readInto_8 rfl ?_
  refine a_aload_n dX4_readInto_9 rfl ?_
  refine a_getI fl_X4_25 lyC_1 rfl dX4_readInto_10 (key := 65) rfl ?_
  refine a_putI fl_X4_29 cf_X4 rfl rfl lyC_3 rfl dX4_readInto_13 (key := 195) rfl fun σ1 => ?_
  refine a_aload_n dX4_readInto_16 rfl ?_
  refine a_callVv (as := []) mf_X4_30 lyC_80 rfl (c_Scene_clear_scene1 F _) LYsame.rf dX4_readInto_17 rfl rfl rfl rfl rfl rfl (Or.inl rfl) fun r2 σ3 => ?_
  refine a_aload_n dX4_readInto_20 rfl ?_
  refine a_iconst dX4_readInto_21 ?_
  refine a_putI fl_X4_35 cf_X4 rfl rfl lyC_3 rfl dX4_readInto_22 (key := 193) rfl fun σ4 => ?_
  refine a_aload_n dX4_readInto_25 rfl ?_
  refine a_bipush dX4_readInto_26 bi_12 ?_
  refine a_putI fl_X4_38 cf_X4 rfl rfl lyC_3 rfl dX4_readInto_28 (key := 201) rfl fun σ5 => ?_
  refine a_aload_n dX4_readInto_31 rfl ?_
  refine a_iconst dX4_readInto_32 ?_
  refine a_putZ fl_X4_41 cf_X4 rfl rfl lyC_3 rfl dX4_readInto_33 (key := 202) rfl fun σ6 => ?_
  refine a_aload_n dX4_readInto_36 rfl ?_
  refine a_iconst dX4_readInto_37 ?_
  refine a_putI fl_X4_45 cf_X4 rfl rfl lyC_3 rfl dX4_readInto_38 (key := 196) rfl fun σ7 => ?_
  refine a_aload_n dX4_readInto_41 rfl ?_
  refine a_callVv (as := []) mf_X4_48 lyC_3 rfl (c_Reader_advance F _) LYsame.rf dX4_readInto_42 rfl rfl rfl rfl rfl rfl (Or.inl rfl) fun r8 σ9 => ?_
  refine a_iconst dX4_readInto_45 ?_
  refine a_istore_n (L' := [some (.ref 3), some (.ref 80), some (.ref 1), some (vi 0)]) dX4_readInto_46 rfl rfl rfl rfl ?_
  exact a_L (lsub_get (A := [some (.ref 3), some (.ref 80), none, some (vi 0)]) ⟨rfl, ⟨rfl, ⟨rfl, trivial⟩⟩⟩) (cl_Reader_readInto_scene1_47 F F _ _)
def f_W_field (F : Nat) (σ : St) : Option (Int × St) := bnd (f_Reader_readInto_scene1 F σ) fun r1 σ2 => bs (sF σ2 65 0) fun σ3 => gd (rng r1 ∧ rng (-1)) (if r1 = (-1) then some (((-1) - (gF σ3 192)), σ3) else bs (reS swR σ3) fun σ4 => some (r1, σ4))
set_option maxRecDepth 100000 in
set_option maxHeartbeats 4000000 in
theorem c_W_field {x : Bool} (F : Nat) (σ : St) : Ct 7 2 1 yX10_field cX10_field 3 (some .int) (LYC x false false) (LYC true false false) [.ref 0] σ (f_W_field F σ) := by
  unfold f_W_field
  refine Ct_of (d := 7) (kp := 2) (kd := 1) (own := RX10) (nL := 3) (ret := (some .int)) (LY := (LYC x false false)) (LYe := (LYC true false false)) (L := [some (.ref 0), none, none]) rfl (by decide +kernel) rfl rfl mf_L_36.2.2.2.1 rfl fun K => ?_
  refine a_aload_n dX10_field_0 rfl ?_
  refine a_getR (c0 := 3) fl_X10_19 lyC_0 rfl dX10_field_1 (key := 1) rfl ?_
  refine a_aload_n dX10_field_4 rfl ?_
  refine a_getR (c0 := 80) fl_X10_30 lyC_0 rfl dX10_field_5 (key := 3) rfl ?_
  refine a_aload_n dX10_field_8 rfl ?_
  refine a_getR (c0 := 1) fl_X10_10 lyC_0 rfl dX10_field_9 (key := 0) rfl ?_
  refine a_callVi (as := [.ref 80, .ref 1]) mf_X10_111 lyC_3 rfl (c_Reader_readInto_scene1 F _) lysame_x dX10_field_12 rfl rfl rfl rfl rfl rfl (Or.inl rfl) fun r1 σ2 => ?_
  refine a_istore_n (L' := [some (.ref 0), some (vi r1), none]) dX10_field_15 rfl rfl rfl rfl ?_
  refine a_aload_n dX10_field_16 rfl ?_
  refine a_getR (c0 := 1) fl_X10_10 lyC_0 rfl dX10_field_17 (key := 0) rfl ?_
  refine a_iconst dX10_field_20 ?_
  refine a_putI fl_X10_108 cf_X8 rfl rfl lyC_1 rfl dX10_field_21 (key := 65) rfl fun σ3 => ?_
  refine a_iload_n dX10_field_24 rfl ?_
  refine a_iconst dX10_field_25 ?_
  refine a_icmp_ne dX10_field_26 rfl (fun _ => ?_) (fun _ => ?_)
  · refine a_aload_n dX10_field_39 rfl ?_
    refine a_getR (c0 := 79) fl_X10_26 lyC_0 rfl dX10_field_40 (key := 2) rfl ?_
    refine a_astore_n (L' := [some (.ref 0), some (vi r1), some (.ref 79)]) dX10_field_43 rfl rfl rfl rfl ?_
    refine a_aload_n dX10_field_44 rfl ?_
    refine a_aload_n dX10_field_45 rfl ?_
    refine a_getR (c0 := 80) fl_X10_30 lyC_0 rfl dX10_field_46 (key := 3) rfl ?_
    refine a_putR fl_X10_26 cf_X10 rfl rfl (fun _ => rfl) (fun _ => rfl) lyC_0 rfl lyput_now dX10_field_49 ?_
    refine a_aload_n dX10_field_52 rfl ?_
    refine a_aload_n dX10_field_53 rfl ?_
    refine a_putR fl_X10_30 cf_X10 rfl rfl (fun _ => rfl) (fun _ => rfl) lyC_0 rfl lyput_draft dX10_field_54 ?_
    refine a_L (lsub_get (A := [some (.ref 0), some (vi r1), none]) ⟨rfl, ⟨rfl, trivial⟩⟩) ?_
    refine a_swap rfl rfl fun σ4 => ?_
    refine a_iload_n dX10_field_57 rfl ?_
    exact a_iret dX10_field_58
  refine a_iconst dX10_field_29 ?_
  refine a_aload_n dX10_field_30 rfl ?_
  refine a_getR (c0 := 3) fl_X10_19 lyC_0 rfl dX10_field_31 (key := 1) rfl ?_
  refine a_getI fl_X10_115 lyC_3 rfl dX10_field_34 (key := 192) rfl ?_
  refine a_isub dX10_field_37 ?_
  exact a_iret dX10_field_38
def f_W_fault (F : Nat) (σ : St) : Option (Int × St) := some ((gF σ 193), σ)
set_option maxRecDepth 100000 in
set_option maxHeartbeats 4000000 in
theorem c_W_fault {x : Bool} (F : Nat) (σ : St) : Ct 1 0 1 yX10_fault cX10_fault 1 (some .int) (LYC x false false) (LYC x false false) [.ref 0] σ (f_W_fault F σ) := by
  unfold f_W_fault
  refine Ct_of (d := 1) (kp := 0) (kd := 1) (own := RX10) (nL := 1) (ret := (some .int)) (LY := (LYC x false false)) (LYe := (LYC x false false)) (L := [some (.ref 0)]) rfl (by decide +kernel) rfl rfl mf_L_41.2.2.2.1 rfl fun K => ?_
  refine a_aload_n dX10_fault_0 rfl ?_
  refine a_getR (c0 := 3) fl_X10_19 lyC_0 rfl dX10_fault_1 (key := 1) rfl ?_
  refine a_getI fl_X10_118 lyC_3 rfl dX10_fault_4 (key := 193) rfl ?_
  exact a_iret dX10_fault_7
def f_Scene_hasHearer_scene0 (F : Nat) (σ : St) (x1 : Int) : Option (Int × St) := gd (rng x1) (if x1 < 0 then some (0, σ) else gd (rng x1 ∧ rng (gF σ 5059)) (if (gF σ 5059) ≤ x1 then some (0, σ) else some (1, σ)))
set_option maxRecDepth 100000 in
set_option maxHeartbeats 4000000 in
theorem c_Scene_hasHearer_scene0 {x : Bool} (F : Nat) (σ : St) (x1 : Int) : Ct 1 0 1 yX7_hasHearer cX7_hasHearer 2 (some .boolean) (LYC x false false) (LYC x false false) [.ref 79, vi x1] σ (f_Scene_hasHearer_scene0 F σ x1) := by
  unfold f_Scene_hasHearer_scene0
  refine Ct_of (d := 1) (kp := 0) (kd := 1) (own := RX7) (nL := 2) (ret := (some .boolean)) (LY := (LYC x false false)) (LYe := (LYC x false false)) (L := [some (.ref 79), some (vi x1)]) rfl (by decide +kernel) rfl rfl mf_X10_121.2.2.2.1 rfl fun K => ?_
  refine a_iload_n dX7_hasHearer_0 rfl ?_
  refine a_if_lt dX7_hasHearer_1 rfl (fun _ => ?_) (fun _ => ?_)
  · refine a_iconst dX7_hasHearer_16 ?_
    exact a_zretc (by decide) dX7_hasHearer_17
  refine a_iload_n dX7_hasHearer_4 rfl ?_
  refine a_aload_n dX7_hasHearer_5 rfl ?_
  refine a_getI fl_X7_48 lyC_79 rfl dX7_hasHearer_6 (key := 5059) rfl ?_
  refine a_icmp_ge dX7_hasHearer_9 rfl (fun _ => ?_) (fun _ => ?_)
  · refine a_iconst dX7_hasHearer_16 ?_
    exact a_zretc (by decide) dX7_hasHearer_17
  refine a_iconst dX7_hasHearer_12 ?_
  refine a_goto dX7_hasHearer_13 rfl ?_
  exact a_zretc (by decide) dX7_hasHearer_17
def f_W_hearer (F : Nat) (σ : St) (x1 x2 : Int) : Option (Int × St) := bnd (f_Scene_hasHearer_scene0 F σ x1) fun r1 σ2 => gd (rng r1) (if r1 = 0 then some (THR, σ2) else gd (rng x2) (if x2 < 0 then some (THR, σ2) else gd (rng x2 ∧ rng 1) (if x2 ≤ 1 then gd (rng x2) (if x2 = 0 then gd (inb x1 10) (gd ((gA σ2 55 (Int.toNat x1)) ≠ THR) (some ((gA σ2 55 (Int.toNat x1)), σ2))) else gd (inb x1 10) (gd ((gA σ2 59 (Int.toNat x1)) ≠ THR) (some ((gA σ2 59 (Int.toNat x1)), σ2)))) else some (THR, σ2))))
set_option maxRecDepth 100000 in
set_option maxHeartbeats 4000000 in
theorem c_W_hearer {x : Bool} (F : Nat) (σ : St) (x1 x2 : Int) : CtX 6 0 1 yX10_hearer cX10_hearer 3 (some .int) (LYC x false false) (LYC x false false) [.ref 0, vi x1, vi x2] σ (f_W_hearer F σ x1 x2) := by
  unfold f_W_hearer
  refine CtX_of (d := 6) (kp := 0) (kd := 1) (own := RX10) (nL := 3) (ret := (some .int)) (LY := (LYC x false false)) (LYe := (LYC x false false)) (L := [some (.ref 0), some (vi x1), some (vi x2)]) rfl (by decide +kernel) rfl rfl mf_L_7.2.2.2.1 rfl fun K => ?_
  refine a_aload_n dX10_hearer_0 rfl ?_
  refine a_getR (c0 := 79) fl_X10_26 lyC_0 rfl dX10_hearer_1 (key := 2) rfl ?_
  refine a_iload_n dX10_hearer_4 rfl ?_
  refine a_callVi (as := [vi x1]) mf_X10_121 lyC_79 rfl (c_Scene_hasHearer_scene0 F _ _) LYsame.rf dX10_hearer_5 rfl rfl rfl rfl rfl rfl (Or.inl rfl) fun r1 σ2 => ?_
  refine a_if_eq dX10_hearer_8 rfl (fun _ => ?_) (fun _ => ?_)
  · exact a_throw rfl rfl rfl dX10_hearer_20 dX10_hearer_23 dX10_hearer_24 dX10_hearer_27
  refine a_iload_n dX10_hearer_11 rfl ?_
  refine a_if_lt dX10_hearer_12 rfl (fun _ => ?_) (fun _ => ?_)
  · exact a_throw rfl rfl rfl dX10_hearer_20 dX10_hearer_23 dX10_hearer_24 dX10_hearer_27
  refine a_iload_n dX10_hearer_15 rfl ?_
  refine a_iconst dX10_hearer_16 ?_
  refine a_icmp_le dX10_hearer_17 rfl (fun _ => ?_) (fun _ => ?_)
  · refine a_iload_n dX10_hearer_28 rfl ?_
    refine a_if_ne dX10_hearer_29 rfl (fun _ => ?_) (fun _ => ?_)
    · refine a_aload_n dX10_hearer_44 rfl ?_
      refine a_getR (c0 := 79) fl_X10_26 lyC_0 rfl dX10_hearer_45 (key := 2) rfl ?_
      refine a_getR (c0 := 59) fl_X10_131 lyC_79 rfl dX10_hearer_48 (key := 5061) rfl ?_
      refine a_iload_n dX10_hearer_51 rfl ?_
      refine a_iald lyC_59 rfl dX10_hearer_52 ?_
      exact a_iretX dX10_hearer_53
    refine a_aload_n dX10_hearer_32 rfl ?_
    refine a_getR (c0 := 79) fl_X10_26 lyC_0 rfl dX10_hearer_33 (key := 2) rfl ?_
    refine a_getR (c0 := 55) fl_X10_128 lyC_79 rfl dX10_hearer_36 (key := 5060) rfl ?_
    refine a_iload_n dX10_hearer_39 rfl ?_
    refine a_iald lyC_55 rfl dX10_hearer_40 ?_
    refine a_goto dX10_hearer_41 rfl ?_
    exact a_iretX dX10_hearer_53
  exact a_throw rfl rfl rfl dX10_hearer_20 dX10_hearer_23 dX10_hearer_24 dX10_hearer_27
def f_Scene_directionOf_scene0 (F : Nat) (σ : St) (x1 : Int) : Option (Int × St) := gd (inb x1 6) (gd (inb x1 6) (bv ((gA σ 71 (Int.toNat x1)) * (gF σ 5058)) fun t1 => bv ((gA σ 63 (Int.toNat x1)) + t1) fun t2 => gd (rng t2 ∧ rng (gF σ 1472) ∧ (gF σ 1472) ≠ (0 : Int)) (some ((Int.tmod t2 (gF σ 1472)), σ))))
set_option maxRecDepth 100000 in
set_option maxHeartbeats 4000000 in
theorem c_Scene_directionOf_scene0 {x : Bool} (F : Nat) (σ : St) (x1 : Int) : Ct 1 0 1 yX7_directionOf cX7_directionOf 2 (some .int) (LYC x false false) (LYC x false false) [.ref 79, vi x1] σ (f_Scene_directionOf_scene0 F σ x1) := by
  unfold f_Scene_directionOf_scene0
  refine Ct_of (d := 1) (kp := 0) (kd := 1) (own := RX7) (nL := 2) (ret := (some .int)) (LY := (LYC x false false)) (LYe := (LYC x false false)) (L := [some (.ref 79), some (vi x1)]) rfl (by decide +kernel) rfl rfl mf_X10_137.2.2.2.1 rfl fun K => ?_
  refine a_aload_n dX7_directionOf_0 rfl ?_
  refine a_getR (c0 := 63) fl_X7_32 lyC_79 rfl dX7_directionOf_1 (key := 5063) rfl ?_
  refine a_iload_n dX7_directionOf_4 rfl ?_
  refine a_iald lyC_63 rfl dX7_directionOf_5 ?_
  refine a_aload_n dX7_directionOf_6 rfl ?_
  refine a_getR (c0 := 71) fl_X7_38 lyC_79 rfl dX7_directionOf_7 (key := 5065) rfl ?_
  refine a_iload_n dX7_directionOf_10 rfl ?_
  refine a_iald lyC_71 rfl dX7_directionOf_11 ?_
  refine a_aload_n dX7_directionOf_12 rfl ?_
  refine a_getI fl_X7_44 lyC_79 rfl dX7_directionOf_13 (key := 5058) rfl ?_
  refine a_imul dX7_directionOf_16 ?_
  refine a_bvi fun t1 => ?_
  refine a_iadd dX7_directionOf_17 ?_
  refine a_bvi fun t2 => ?_
  refine a_aload_n dX7_directionOf_18 rfl ?_
  refine a_getR (c0 := 23) fl_X7_12 lyC_79 rfl dX7_directionOf_19 (key := 5056) rfl ?_
  refine a_getI fl_X7_73 lyC_23 rfl dX7_directionOf_22 (key := 1472) rfl ?_
  refine a_irem dX7_directionOf_25 (fun _ => ?_)
  exact a_iret dX7_directionOf_26
def f_W_sender (F : Nat) (σ : St) (x1 x2 : Int) : Option (Int × St) := gd (rng x1) (if x1 < 0 then some (THR, σ) else gd (rng x1 ∧ rng (gF σ 5062)) (if (gF σ 5062) ≤ x1 then some (THR, σ) else gd (rng x2) (if x2 < 0 then some (THR, σ) else gd (rng x2 ∧ rng 3) (if x2 ≤ 3 then gd (rng x2) (if x2 = 0 then bnd (f_Scene_directionOf_scene0 F σ x1) fun r1 σ2 => gd (r1 ≠ THR) (some (r1, σ2)) else (if x2 = 1 then gd (inb x1 6) (gd ((gA σ 67 (Int.toNat x1)) ≠ THR) (some ((gA σ 67 (Int.toNat x1)), σ))) else (if x2 = 2 then gd (inb x1 6) (gd ((gA σ 71 (Int.toNat x1)) ≠ THR) (some ((gA σ 71 (Int.toNat x1)), σ))) else (gd (inb x1 6) (gd ((gA σ 75 (Int.toNat x1)) ≠ THR) (some ((gA σ 75 (Int.toNat x1)), σ))))))) else some (THR, σ)))))
set_option maxRecDepth 100000 in
set_option maxHeartbeats 4000000 in
theorem c_W_sender {x : Bool} (F : Nat) (σ : St) (x1 x2 : Int) : CtX 6 0 1 yX10_sender cX10_sender 3 (some .int) (LYC x false false) (LYC x false false) [.ref 0, vi x1, vi x2] σ (f_W_sender F σ x1 x2) := by
  unfold f_W_sender
  refine CtX_of (d := 6) (kp := 0) (kd := 1) (own := RX10) (nL := 3) (ret := (some .int)) (LY := (LYC x false false)) (LYe := (LYC x false false)) (L := [some (.ref 0), some (vi x1), some (vi x2)]) rfl (by decide +kernel) rfl rfl mf_L_15.2.2.2.1 rfl fun K => ?_
  refine a_iload_n dX10_sender_0 rfl ?_
  refine a_if_lt dX10_sender_1 rfl (fun _ => ?_) (fun _ => ?_)
  · exact a_throw rfl rfl rfl dX10_sender_24 dX10_sender_27 dX10_sender_28 dX10_sender_31
  refine a_iload_n dX10_sender_4 rfl ?_
  refine a_aload_n dX10_sender_5 rfl ?_
  refine a_getR (c0 := 79) fl_X10_26 lyC_0 rfl dX10_sender_6 (key := 2) rfl ?_
  refine a_getI fl_X10_134 lyC_79 rfl dX10_sender_9 (key := 5062) rfl ?_
  refine a_icmp_ge dX10_sender_12 rfl (fun _ => ?_) (fun _ => ?_)
  · exact a_throw rfl rfl rfl dX10_sender_24 dX10_sender_27 dX10_sender_28 dX10_sender_31
  refine a_iload_n dX10_sender_15 rfl ?_
  refine a_if_lt dX10_sender_16 rfl (fun _ => ?_) (fun _ => ?_)
  · exact a_throw rfl rfl rfl dX10_sender_24 dX10_sender_27 dX10_sender_28 dX10_sender_31
  refine a_iload_n dX10_sender_19 rfl ?_
  refine a_iconst dX10_sender_20 ?_
  refine a_icmp_le dX10_sender_21 rfl (fun _ => ?_) (fun _ => ?_)
  · refine a_iload_n dX10_sender_32 rfl ?_
    refine a_gd fun hsw => ?_
    refine a_tsw_in dX10_sender_33 (by decide) (by decide) (by decide) rfl rfl ?_ fun hs0 => ?_
    · refine a_aload_n dX10_sender_60 rfl ?_
      refine a_getR (c0 := 79) fl_X10_26 lyC_0 rfl dX10_sender_61 (key := 2) rfl ?_
      refine a_iload_n dX10_sender_64 rfl ?_
      refine a_callVi (as := [vi x1]) mf_X10_137 lyC_79 rfl (c_Scene_directionOf_scene0 F _ _) LYsame.rf dX10_sender_65 rfl rfl rfl rfl rfl rfl (Or.inl rfl) fun r1 σ2 => ?_
      exact a_iretX dX10_sender_68
    refine a_tsw_in dX10_sender_33 (by decide) (by decide) (by decide) rfl rfl ?_ fun hs1 => ?_
    · refine a_aload_n dX10_sender_69 rfl ?_
      refine a_getR (c0 := 79) fl_X10_26 lyC_0 rfl dX10_sender_70 (key := 2) rfl ?_
      refine a_getR (c0 := 67) fl_X10_141 lyC_79 rfl dX10_sender_73 (key := 5064) rfl ?_
      refine a_iload_n dX10_sender_76 rfl ?_
      refine a_iald lyC_67 rfl dX10_sender_77 ?_
      exact a_iretX dX10_sender_78
    refine a_tsw_in dX10_sender_33 (by decide) (by decide) (by decide) rfl rfl ?_ fun hs2 => ?_
    · refine a_aload_n dX10_sender_79 rfl ?_
      refine a_getR (c0 := 79) fl_X10_26 lyC_0 rfl dX10_sender_80 (key := 2) rfl ?_
      refine a_getR (c0 := 71) fl_X10_144 lyC_79 rfl dX10_sender_83 (key := 5065) rfl ?_
      refine a_iload_n dX10_sender_86 rfl ?_
      refine a_iald lyC_71 rfl dX10_sender_87 ?_
      exact a_iretX dX10_sender_88
    refine a_tsw_out dX10_sender_33 hsw (by omega) rfl ?_
    refine a_aload_n dX10_sender_89 rfl ?_
    refine a_getR (c0 := 79) fl_X10_26 lyC_0 rfl dX10_sender_90 (key := 2) rfl ?_
    refine a_getR (c0 := 75) fl_X10_147 lyC_79 rfl dX10_sender_93 (key := 5066) rfl ?_
    refine a_iload_n dX10_sender_96 rfl ?_
    refine a_iald lyC_75 rfl dX10_sender_97 ?_
    exact a_iretX dX10_sender_98
  exact a_throw rfl rfl rfl dX10_sender_24 dX10_sender_27 dX10_sender_28 dX10_sender_31
def f_W_moment (F : Nat) (σ : St) (x1 : Int) : Option (Int × St) := gd (rng x1) (if x1 < 0 then some (0, σ) else gd (rng x1 ∧ rng 999) (if x1 ≤ 999 then bs (sF σ 5058 x1) fun σ1 => some (1, σ1) else some (0, σ)))
set_option maxRecDepth 100000 in
set_option maxHeartbeats 4000000 in
theorem c_W_moment {x : Bool} (F : Nat) (σ : St) (x1 : Int) : Ct 1 0 1 yX10_moment cX10_moment 2 (some .boolean) (LYC x false false) (LYC x false false) [.ref 0, vi x1] σ (f_W_moment F σ x1) := by
  unfold f_W_moment
  refine Ct_of (d := 1) (kp := 0) (kd := 1) (own := RX10) (nL := 2) (ret := (some .boolean)) (LY := (LYC x false false)) (LYe := (LYC x false false)) (L := [some (.ref 0), some (vi x1)]) rfl (by decide +kernel) rfl rfl mf_L_57.2.2.2.1 rfl fun K => ?_
  refine a_iload_n dX10_moment_0 rfl ?_
  refine a_if_lt dX10_moment_1 rfl (fun _ => ?_) (fun _ => ?_)
  · refine a_iconst dX10_moment_11 ?_
    exact a_zretc (by decide) dX10_moment_12
  refine a_iload_n dX10_moment_4 rfl ?_
  refine a_sipush dX10_moment_5 si_999 ?_
  refine a_icmp_le dX10_moment_8 rfl (fun _ => ?_) (fun _ => ?_)
  · refine a_aload_n dX10_moment_13 rfl ?_
    refine a_getR (c0 := 79) fl_X10_26 lyC_0 rfl dX10_moment_14 (key := 2) rfl ?_
    refine a_iload_n dX10_moment_17 rfl ?_
    refine a_putI fl_X10_150 cf_X7 rfl rfl lyC_79 rfl dX10_moment_18 (key := 5058) rfl fun σ1 => ?_
    refine a_iconst dX10_moment_21 ?_
    exact a_zretc (by decide) dX10_moment_22
  refine a_iconst dX10_moment_11 ?_
  exact a_zretc (by decide) dX10_moment_12
def f_Lattice_has_lattice0 (F : Nat) (σ : St) (x1 : Int) : Option (Int × St) := gd (rng x1) (if x1 < 0 then some (0, σ) else gd (rng x1 ∧ rng (gF σ 1472)) (if (gF σ 1472) ≤ x1 then some (0, σ) else some (1, σ)))
set_option maxRecDepth 100000 in
set_option maxHeartbeats 4000000 in
theorem c_Lattice_has_lattice0 {x : Bool} (F : Nat) (σ : St) (x1 : Int) : Ct 1 0 1 yX2_has cX2_has 2 (some .boolean) (LYC x false false) (LYC x false false) [.ref 23, vi x1] σ (f_Lattice_has_lattice0 F σ x1) := by
  unfold f_Lattice_has_lattice0
  refine Ct_of (d := 1) (kp := 0) (kd := 1) (own := RX2) (nL := 2) (ret := (some .boolean)) (LY := (LYC x false false)) (LYe := (LYC x false false)) (L := [some (.ref 23), some (vi x1)]) rfl (by decide +kernel) rfl rfl mf_X10_157.2.2.2.1 rfl fun K => ?_
  refine a_iload_n dX2_has_0 rfl ?_
  refine a_if_lt dX2_has_1 rfl (fun _ => ?_) (fun _ => ?_)
  · refine a_iconst dX2_has_16 ?_
    exact a_zretc (by decide) dX2_has_17
  refine a_iload_n dX2_has_4 rfl ?_
  refine a_aload_n dX2_has_5 rfl ?_
  refine a_getI fl_X2_19 lyC_23 rfl dX2_has_6 (key := 1472) rfl ?_
  refine a_icmp_ge dX2_has_9 rfl (fun _ => ?_) (fun _ => ?_)
  · refine a_iconst dX2_has_16 ?_
    exact a_zretc (by decide) dX2_has_17
  refine a_iconst dX2_has_12 ?_
  refine a_goto dX2_has_13 rfl ?_
  exact a_zretc (by decide) dX2_has_17
def f_Lattice_waveAt_lattice0 (F : Nat) (σ : St) (x1 x2 : Int) : Option (Int × St) := gd (rng (x1 * x2) ∧ rng (gF σ 1472) ∧ (gF σ 1472) ≠ (0 : Int)) (bv (Int.tmod (x1 * x2) (gF σ 1472)) fun t1 => gd (inb t1 60) (some ((gA σ 27 (Int.toNat t1)), σ)))
set_option maxRecDepth 100000 in
set_option maxHeartbeats 4000000 in
theorem c_Lattice_waveAt_lattice0 {x : Bool} (F : Nat) (σ : St) (x1 x2 : Int) : Ct 1 0 1 yX2_waveAt cX2_waveAt 3 (some .int) (LYC x false false) (LYC x false false) [.ref 23, vi x1, vi x2] σ (f_Lattice_waveAt_lattice0 F σ x1 x2) := by
  unfold f_Lattice_waveAt_lattice0
  refine Ct_of (d := 1) (kp := 0) (kd := 1) (own := RX2) (nL := 3) (ret := (some .int)) (LY := (LYC x false false)) (LYe := (LYC x false false)) (L := [some (.ref 23), some (vi x1), some (vi x2)]) rfl (by decide +kernel) rfl rfl mf_X10_162.2.2.2.1 rfl fun K => ?_
  refine a_aload_n dX2_waveAt_0 rfl ?_
  refine a_getR (c0 := 27) fl_X2_9 lyC_23 rfl dX2_waveAt_1 (key := 1475) rfl ?_
  refine a_iload_n dX2_waveAt_4 rfl ?_
  refine a_iload_n dX2_waveAt_5 rfl ?_
  refine a_imul dX2_waveAt_6 ?_
  refine a_aload_n dX2_waveAt_7 rfl ?_
  refine a_getI fl_X2_19 lyC_23 rfl dX2_waveAt_8 (key := 1472) rfl ?_
  refine a_irem dX2_waveAt_11 (fun _ => ?_)
  refine a_bvi fun t1 => ?_
  refine a_iald lyC_27 rfl dX2_waveAt_12 ?_
  exact a_iret dX2_waveAt_13
